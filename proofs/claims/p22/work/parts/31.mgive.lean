set_option maxHeartbeats 4000000 in
set_option maxRecDepth 100000 in
theorem lm_bits {p : Program} {l : Launch} {e : Env} {R : Room} {s : State} {m : MethodId} {args : Array Value} {below : List Frame} {meth : Method} {c : Code} {cells slots : Nat} {Q : State → Prop} {A : Nat → Prop} (E : vE) (h0 : Nat) (q : Nat → Nat) (i_taped : Int32) (i_size : Int32) (i_sort : Int32) (i_what : Int32) (i_at : Int32) (i_end : Int32) (i_worth : Int32) (i_faultKind : Int32) (i_faultPlace : Int32) (i_got : Int32) (i_worked : Int32) (i_isPlanned : Int32) (i_bestDone : Int32) (i_bestCost : Int32) (dl : Nat) (M9 : Nat) (co3 : Int32) (c4 : Int32) (wr : va_W) (hx : p.tables.exec = Jvm.exec) (hb : c.code = cX12_give) (hml : c.maxLocals = 6) (hown : s.vm.findClass RX12 = some m.cls) (hts : ∀ w ∈ wsX12_give, w.before args s = true) (hkn : kn E s) (hst : st E A s s.heap) (hA : ∀ q : Nat, s.heap.size ≤ q → A q) (kk : ∀ (mv : Nat) (H : Heap) (locs : List Loc) (ls : Array Slot), (mv = M9) → va_P E.1 vwCl ((h0, .inr (12, mG q i_taped i_size i_sort i_what i_at i_end i_worth i_faultKind i_faultPlace i_got i_worked (nI dl) i_isPlanned i_bestDone i_bestCost)) :: wr) H → va_D A ((h0, .inr (12, mG q i_taped i_size i_sort i_what i_at i_end i_worth i_faultKind i_faultPlace i_got i_worked (nI dl) i_isPlanned i_bestDone i_bestCost)) :: wr) → va_S A s.heap H locs → lv_has ls 6 [(0, .ref h0), (2, .int (nI mv)), (3, .int co3), (4, .int c4)] → W p l e R s m args below meth c H locs cells slots Q (F0 m 96 ls [])) : ∀ (n0 : Nat) (bv : Nat) (mv : Nat) (H : Heap) (locs : List Loc) (ls : Array Slot), bv < n0 → (bv < 128) → (mv + pc7 bv = M9) → va_P E.1 vwCl ((h0, .inr (12, mG q i_taped i_size i_sort i_what i_at i_end i_worth i_faultKind i_faultPlace i_got i_worked (nI dl) i_isPlanned i_bestDone i_bestCost)) :: wr) H → va_D A ((h0, .inr (12, mG q i_taped i_size i_sort i_what i_at i_end i_worth i_faultKind i_faultPlace i_got i_worked (nI dl) i_isPlanned i_bestDone i_bestCost)) :: wr) → va_S A s.heap H locs → lv_has ls 6 [(0, .ref h0), (2, .int (nI mv)), (3, .int co3), (4, .int c4), (5, .int (nI bv))] → W p l e R s m args below meth c H locs cells slots Q (F0 m 76 ls []) := by
  have hK := hkn.1
  have hAO := hkn.2.2.1
  have fl130 := hts (.fieldLink RX12 130 "BoatsHomeModel" "least" "[I") (by first | exact List.mem_of_getElem? (i := 2) rfl | decide +kernel)
  have fl136 := hts (.fieldLink RX12 136 "BoatsHomeModel" "given" "[I") (by first | exact List.mem_of_getElem? (i := 7) rfl | decide +kernel)
  have fl139 := hts (.fieldLink RX12 139 "BoatsHomeModel" "bestGiven" "[I") (by first | exact List.mem_of_getElem? (i := 6) rfl | decide +kernel)
  have fl142 := hts (.fieldLink RX12 142 "BoatsHomeModel" "sets" "[I") (by first | exact List.mem_of_getElem? (i := 3) rfl | decide +kernel)
  have fl289 := hts (.fieldLink RX12 289 "BoatsHomeModel" "deliveries" "I") (by first | exact List.mem_of_getElem? (i := 1) rfl | decide +kernel)
  have fl300 := hts (.fieldLink RX12 300 "BoatsHomeModel" "bestDone" "I") (by first | exact List.mem_of_getElem? (i := 4) rfl | decide +kernel)
  have fl303 := hts (.fieldLink RX12 303 "BoatsHomeModel" "bestCost" "I") (by first | exact List.mem_of_getElem? (i := 5) rfl | decide +kernel)
  have inX12 : ∀ w ∈ u_ws RX12 TX12 59, w ∈ wsX12_give := by first | exact fun w h9 => (List.mem_cons_of_mem _ (List.mem_append_right _ h9)) | decide +kernel
  intro n0
  induction n0 with
  | zero =>
    intro bv mv H locs ls hn0
    exact absurd hn0 (Nat.not_lt_zero _)
  | succ n0 ih =>
    intro bv mv H locs ls hn0 hbv hM hP hD hS hl
    refine lv_iload hx hb dX12_give_76 (lv_at hl 4 rfl) ?_
    refine lv_if_eq (tgt := 96) hx hb dX12_give_78 (by decide) (fun c_1 => ?_) (fun c_1 => ?_)
    · exact kk mv _ _ _ (by have e9 : bv = 0 := (nI_eq (b := 0) (by omega) (by decide)).mp c_1; rw [e9] at hM; exact hM) hP hD hS (lv_sub hl [0, 1, 2, 3] rfl)
    · have hp0 : 0 < bv := by
        rcases Nat.eq_zero_or_pos bv with q | q
        · exact absurd (by rw [q]; rfl) c_1
        · exact q
      refine lv_iinc (v := (nI (mv + 1))) (lv' := [(2, .int (nI (mv + 1))), (0, .ref h0), (3, .int co3), (4, .int c4), (5, .int (nI bv))]) hx hb dX12_give_81 hl (k := 1) rfl (show nI mv + 1 = nI (mv + 1) from nI_1 mv) (by decide) rfl (fun ls hl => ?_)
      refine lv_iload hx hb dX12_give_84 (lv_at hl 4 rfl) ?_
      refine lv_iload hx hb dX12_give_86 (lv_at hl 4 rfl) ?_
      refine lv_iconst (v := 1) hx hb dX12_give_88 (by decide) ?_
      refine lv_isub hx hb dX12_give_89 ?_
      refine lv_topi (fun x_2 ex_2 => ?_)
      obtain rfl : x_2 = nI (bv - 1) := ex_2.trans (nI_dec hp0)
      refine lv_iand hx hb dX12_give_90 ?_
      refine lv_topi (fun x_3 ex_3 => ?_)
      obtain rfl : x_3 = nI (bv &&& (bv - 1)) := ex_3.trans (nI_and bv (bv - 1))
      refine lv_istore (lv' := [(5, .int (nI (bv &&& (bv - 1)))), (2, .int (nI (mv + 1))), (0, .ref h0), (3, .int co3), (4, .int c4)]) hx hb dX12_give_91 hl (by decide) rfl (fun ls hl => ?_)
      refine lv_goto (tgt := 76) hx hb dX12_give_93 (by decide) ?_
      exact ih (bv &&& (bv - 1)) (mv + 1) _ _ _ (by have := @Nat.and_le_right bv (bv - 1); omega) ((pc_and bv hbv hp0).1) (by have := (pc_and bv hbv hp0).2; omega) hP hD hS (lv_sub hl [2, 1, 3, 4, 0] rfl)
set_option maxHeartbeats 4000000 in
set_option maxRecDepth 100000 in
theorem lm_copy {p : Program} {l : Launch} {e : Env} {R : Room} {s : State} {m : MethodId} {args : Array Value} {below : List Frame} {meth : Method} {c : Code} {cells slots : Nat} {Q : State → Prop} {A : Nat → Prop} (E : vE) (h0 : Nat) (q : Nat → Nat) (i_taped : Int32) (i_size : Int32) (i_sort : Int32) (i_what : Int32) (i_at : Int32) (i_end : Int32) (i_worth : Int32) (i_faultKind : Int32) (i_faultPlace : Int32) (i_got : Int32) (i_worked : Int32) (i_isPlanned : Int32) (i_bestDone : Int32) (i_bestCost : Int32) (dl : Nat) (a_given : Nat → Int32) (wr : va_W) (hx : p.tables.exec = Jvm.exec) (hb : c.code = cX12_give) (hml : c.maxLocals = 6) (hown : s.vm.findClass RX12 = some m.cls) (hts : ∀ w ∈ wsX12_give, w.before args s = true) (hkn : kn E s) (hst : st E A s s.heap) (hA : ∀ q : Nat, s.heap.size ≤ q → A q) (hdl : dl ≤ 7) (kk : ∀ (a_bestGiven : Nat → Int32) (H : Heap) (locs : List Loc) (ls : Array Slot), (∀ j : Nat, j < dl → a_bestGiven j = a_given j) → va_P E.1 vwCl ((h0, .inr (12, mG q i_taped i_size i_sort i_what i_at i_end i_worth i_faultKind i_faultPlace i_got i_worked (nI dl) i_isPlanned i_bestDone i_bestCost)) :: (q 53, .inl (E.2.1 0, 7, .inl a_given)) :: (q 54, .inl (E.2.1 0, 7, .inl a_bestGiven)) :: wr) H → va_D A ((h0, .inr (12, mG q i_taped i_size i_sort i_what i_at i_end i_worth i_faultKind i_faultPlace i_got i_worked (nI dl) i_isPlanned i_bestDone i_bestCost)) :: (q 53, .inl (E.2.1 0, 7, .inl a_given)) :: (q 54, .inl (E.2.1 0, 7, .inl a_bestGiven)) :: wr) → va_S A s.heap H locs → lv_has ls 6 [(0, .ref h0)] → W p l e R s m args below meth c H locs cells slots Q (F0 m 169 ls [])) : ∀ (n0 : Nat) (k : Nat) (a_bestGiven : Nat → Int32) (H : Heap) (locs : List Loc) (ls : Array Slot), 8 - k < n0 → (k ≤ 7) → (∀ j : Nat, j < k → a_bestGiven j = a_given j) → va_P E.1 vwCl ((h0, .inr (12, mG q i_taped i_size i_sort i_what i_at i_end i_worth i_faultKind i_faultPlace i_got i_worked (nI dl) i_isPlanned i_bestDone i_bestCost)) :: (q 53, .inl (E.2.1 0, 7, .inl a_given)) :: (q 54, .inl (E.2.1 0, 7, .inl a_bestGiven)) :: wr) H → va_D A ((h0, .inr (12, mG q i_taped i_size i_sort i_what i_at i_end i_worth i_faultKind i_faultPlace i_got i_worked (nI dl) i_isPlanned i_bestDone i_bestCost)) :: (q 53, .inl (E.2.1 0, 7, .inl a_given)) :: (q 54, .inl (E.2.1 0, 7, .inl a_bestGiven)) :: wr) → va_S A s.heap H locs → lv_has ls 6 [(0, .ref h0), (4, .int (nI k))] → W p l e R s m args below meth c H locs cells slots Q (F0 m 140 ls []) := by
  have hK := hkn.1
  have hAO := hkn.2.2.1
  have fl130 := hts (.fieldLink RX12 130 "BoatsHomeModel" "least" "[I") (by first | exact List.mem_of_getElem? (i := 2) rfl | decide +kernel)
  have fl136 := hts (.fieldLink RX12 136 "BoatsHomeModel" "given" "[I") (by first | exact List.mem_of_getElem? (i := 7) rfl | decide +kernel)
  have fl139 := hts (.fieldLink RX12 139 "BoatsHomeModel" "bestGiven" "[I") (by first | exact List.mem_of_getElem? (i := 6) rfl | decide +kernel)
  have fl142 := hts (.fieldLink RX12 142 "BoatsHomeModel" "sets" "[I") (by first | exact List.mem_of_getElem? (i := 3) rfl | decide +kernel)
  have fl289 := hts (.fieldLink RX12 289 "BoatsHomeModel" "deliveries" "I") (by first | exact List.mem_of_getElem? (i := 1) rfl | decide +kernel)
  have fl300 := hts (.fieldLink RX12 300 "BoatsHomeModel" "bestDone" "I") (by first | exact List.mem_of_getElem? (i := 4) rfl | decide +kernel)
  have fl303 := hts (.fieldLink RX12 303 "BoatsHomeModel" "bestCost" "I") (by first | exact List.mem_of_getElem? (i := 5) rfl | decide +kernel)
  have inX12 : ∀ w ∈ u_ws RX12 TX12 59, w ∈ wsX12_give := by first | exact fun w h9 => (List.mem_cons_of_mem _ (List.mem_append_right _ h9)) | decide +kernel
  intro n0
  induction n0 with
  | zero =>
    intro k a_bestGiven H locs ls hn0
    exact absurd hn0 (Nat.not_lt_zero _)
  | succ n0 ih =>
    intro k a_bestGiven H locs ls hn0 hk hcp hP hD hS hl
    refine lv_iload hx hb dX12_give_140 (lv_at hl 1 rfl) ?_
    refine lv_aload_n hx hb dX12_give_142 rfl (lv_at hl 0 rfl) ?_
    refine va_get (D := E.1) (ci := 12) (v := .int (nI dl)) (C := RX12) (T := TX12) (N := 59) hx hb hts inX12 hown hK hP 0 rfl rfl 41 (by decide) fl289 (fun _ h9 => h9) rfl dX12_give_143 ?_
    refine lv_icmp_ge (tgt := 169) hx hb dX12_give_146 (by decide) (fun c_1 => ?_) (fun c_1 => ?_)
    · exact kk a_bestGiven _ _ _ (fun j hj => hcp j (by have := (nI_leI (by omega) (by omega)).mp c_1; omega)) hP hD hS (lv_sub hl [0] rfl)
    · have hlt : k < 7 := by have := lt_of_nle (by omega) c_1; omega
      refine lv_aload_n hx hb dX12_give_149 rfl (lv_at hl 0 rfl) ?_
      refine va_get (D := E.1) (ci := 12) (v := .ref (q 54)) (C := RX12) (T := TX12) (N := 59) hx hb hts inX12 hown hK hP 0 rfl rfl 54 (by decide) fl139 (fun _ h9 => h9) rfl dX12_give_150 ?_
      refine lv_iload hx hb dX12_give_153 (lv_at hl 1 rfl) ?_
      refine lv_aload_n hx hb dX12_give_155 rfl (lv_at hl 0 rfl) ?_
      refine va_get (D := E.1) (ci := 12) (v := .ref (q 53)) (C := RX12) (T := TX12) (N := 59) hx hb hts inX12 hown hK hP 0 rfl rfl 53 (by decide) fl136 (fun _ h9 => h9) rfl dX12_give_156 ?_
      refine lv_iload hx hb dX12_give_159 (lv_at hl 1 rfl) ?_
      have hi_2 : vp_in (nI k) 7 := vp_in_nI (by omega) (by decide)
      refine va_iald hx hb hK hP 1 0 rfl rfl hi_2 dX12_give_161 ?_
      refine lv_topi (fun x_3 ex_3 => ?_)
      refine va_iast hx hb hK hP hD hS 2 0 rfl rfl hi_2 dX12_give_162 (fun H locs hP hD hS => ?_)
      have hP : va_P E.1 vwCl ((h0, .inr (12, mG q i_taped i_size i_sort i_what i_at i_end i_worth i_faultKind i_faultPlace i_got i_worked (nI dl) i_isPlanned i_bestDone i_bestCost)) :: (q 53, .inl (E.2.1 0, 7, .inl a_given)) :: (q 54, .inl (E.2.1 0, 7, .inl (upd a_bestGiven (nI k).toNatClampNeg x_3))) :: wr) H := hP
      have hD : va_D A ((h0, .inr (12, mG q i_taped i_size i_sort i_what i_at i_end i_worth i_faultKind i_faultPlace i_got i_worked (nI dl) i_isPlanned i_bestDone i_bestCost)) :: (q 53, .inl (E.2.1 0, 7, .inl a_given)) :: (q 54, .inl (E.2.1 0, 7, .inl (upd a_bestGiven (nI k).toNatClampNeg x_3))) :: wr) := hD
      obtain ⟨f_4, ef_4⟩ : ∃ g : Nat → Int32, g = upd a_bestGiven (nI k).toNatClampNeg x_3 := ⟨_, rfl⟩
      rw [← ef_4] at hP hD
      refine lv_iinc (v := (nI (k + 1))) (lv' := [(4, .int (nI (k + 1))), (0, .ref h0)]) hx hb dX12_give_163 hl (k := 1) rfl (show nI k + 1 = nI (k + 1) from nI_1 k) (by decide) rfl (fun ls hl => ?_)
      refine lv_goto (tgt := 140) hx hb dX12_give_166 (by decide) ?_
      exact ih (k + 1) f_4 _ _ _ (by omega) (by omega) (cp_next hcp (ef_4.trans (by rw [nI_clamp (by omega)])) (ex_3.trans (by rw [nI_clamp (by omega)]))) hP hD hS (lv_sub hl [1, 0] rfl)
set_option maxHeartbeats 4000000 in
set_option maxRecDepth 100000 in
theorem c_X12_give7 (l : Launch) (E : vE) (h0 : Nat) (q : Nat → Nat) (i_taped : Int32) (i_size : Int32) (i_sort : Int32) (i_what : Int32) (i_at : Int32) (i_end : Int32) (i_worth : Int32) (i_faultKind : Int32) (i_faultPlace : Int32) (i_got : Int32) (i_worked : Int32) (i_isPlanned : Int32) (i_bestDone : Int32) (i_bestCost : Int32) (dl : Nat) (FF : Nat → Nat → Prop) (CC : Nat → Nat → Int) (gp : Nat → Nat) (a_least : Nat → Int32) (a_sets : Nat → Int32) (a_bestGiven : Nat → Int32) (a_given : Nat → Int32) (sz : Nat) (hdl : dl ≤ 7) (hd : 7 ≤ dl) (hp : ∀ k : Nat, k < 7 → gp k ≤ 4) (hSt : ∀ i : Nat, i < 4 → a_sets i = nI (setOf gp i 7)) (hGv : ∀ k : Nat, k < 7 → a_given k = gI (gp k)) (hBG : BG FF CC dl (hN gp 7 * 5 ^ (dl - 7)) i_bestDone i_bestCost a_bestGiven) (hKm : ∀ i : Nat, i < 4 → ∀ z : Nat, z < 128 → ((¬ a_least (128 * i + z) = -1) ↔ FF i z) ∧ ((¬ a_least (128 * i + z) = -1) → (a_least (128 * i + z)).toInt = CC i z)) (hCb : ∀ i : Nat, i < 4 → ∀ z : Nat, FF i z → 0 ≤ CC i z ∧ CC i z ≤ 70000) (hI_sets : ∀ k : Nat, k < 4 → inR (a_sets k) 0 127 = true) : Met l yX12_give wsX12_give ({ frames := 0, cells := 0, slots := 0, locals := 0 }) (pcW E [.ref h0, .int 7] sz [(h0, .inr (12, mG q i_taped i_size i_sort i_what i_at i_end i_worth i_faultKind i_faultPlace i_got i_worked (nI dl) i_isPlanned i_bestDone i_bestCost)), (q 51, .inl (E.2.1 0, 512, .inl a_least)), (q 55, .inl (E.2.1 0, 4, .inl a_sets)), (q 54, .inl (E.2.1 0, 7, .inl a_bestGiven)), (q 53, .inl (E.2.1 0, 7, .inl a_given))]) (va_Qv (fun (u : Int32 × Int32 × (Nat → Int32) × (Nat → Int32) × (Nat → Int32)) => match u with | (bd2, bc2, b_sets, b_bestGiven, b_given) => BG FF CC dl ((hN gp 7 + 1) * 5 ^ (dl - 7)) bd2 bc2 b_bestGiven) (fun (u : Int32 × Int32 × (Nat → Int32) × (Nat → Int32) × (Nat → Int32)) (t : State) => match u with | (bd2, bc2, b_sets, b_bestGiven, b_given) => (∀ k : Nat, k < 4 → inR (b_sets k) 0 127 = true) ∧ (∀ i : Nat, i < 4 → b_sets i = a_sets i) ∧ (∀ k : Nat, k < 7 → b_given k = a_given k) ∧ wB E (va_A [(h0, .inr (12, mG q i_taped i_size i_sort i_what i_at i_end i_worth i_faultKind i_faultPlace i_got i_worked (nI dl) i_isPlanned i_bestDone i_bestCost)), (q 51, .inl (E.2.1 0, 512, .inl a_least)), (q 55, .inl (E.2.1 0, 4, .inl a_sets)), (q 54, .inl (E.2.1 0, 7, .inl a_bestGiven)), (q 53, .inl (E.2.1 0, 7, .inl a_given))] sz) [(h0, .inr (12, mG q i_taped i_size i_sort i_what i_at i_end i_worth i_faultKind i_faultPlace i_got i_worked (nI dl) i_isPlanned bd2 bc2)), (q 51, .inl (E.2.1 0, 512, .inl a_least)), (q 55, .inl (E.2.1 0, 4, .inl b_sets)), (q 54, .inl (E.2.1 0, 7, .inl b_bestGiven)), (q 53, .inl (E.2.1 0, 7, .inl b_given))] t) (va_A [(h0, .inr (12, mG q i_taped i_size i_sort i_what i_at i_end i_worth i_faultKind i_faultPlace i_got i_worked (nI dl) i_isPlanned i_bestDone i_bestCost)), (q 51, .inl (E.2.1 0, 512, .inl a_least)), (q 55, .inl (E.2.1 0, 4, .inl a_sets)), (q 54, .inl (E.2.1 0, 7, .inl a_bestGiven)), (q 53, .inl (E.2.1 0, 7, .inl a_given))] sz)) 0 0 (va_A [(h0, .inr (12, mG q i_taped i_size i_sort i_what i_at i_end i_worth i_faultKind i_faultPlace i_got i_worked (nI dl) i_isPlanned i_bestDone i_bestCost)), (q 51, .inl (E.2.1 0, 512, .inl a_least)), (q 55, .inl (E.2.1 0, 4, .inl a_sets)), (q 54, .inl (E.2.1 0, 7, .inl a_bestGiven)), (q 53, .inl (E.2.1 0, 7, .inl a_given))] sz) := by
  refine Met.ofW (cc := cX12_give) (maxL := 6) (ret := none) (by decide) rfl ?_
  intro p e s m args below meth c s₁ B hml hv
  obtain ⟨rfl, hsz, hP, hkn, hD0, hst⟩ := hv
  have hx := B.exec
  have hb := B.bytes
  have hr := B.returns
  have hts := atoms_spec (ws := wsX12_give) B.pre
  have hown : s.vm.findClass RX12 = some m.cls := findClass_of_methodNamed B.named
  have hlocks := B.notSynchronized
  subst hsz
  have hD := hD0.self (sz := s.heap.size)
  have hK := hkn.1
  have hAO := hkn.2.2.1
  generalize hAe : va_A [(h0, .inr (12, mG q i_taped i_size i_sort i_what i_at i_end i_worth i_faultKind i_faultPlace i_got i_worked (nI dl) i_isPlanned i_bestDone i_bestCost)), (q 51, .inl (E.2.1 0, 512, .inl a_least)), (q 55, .inl (E.2.1 0, 4, .inl a_sets)), (q 54, .inl (E.2.1 0, 7, .inl a_bestGiven)), (q 53, .inl (E.2.1 0, 7, .inl a_given))] s.heap.size = A at hD hst ⊢
  have hA : ∀ q : Nat, s.heap.size ≤ q → A q := fun q h => by rw [← hAe]; exact Or.inr h
  have hS : va_S A s.heap s.heap [] := va_S.rf
  have hP : va_P E.1 vwCl [(h0, .inr (12, mG q i_taped i_size i_sort i_what i_at i_end i_worth i_faultKind i_faultPlace i_got i_worked (nI dl) i_isPlanned i_bestDone i_bestCost)), (q 51, .inl (E.2.1 0, 512, .inl a_least)), (q 55, .inl (E.2.1 0, 4, .inl a_sets)), (q 54, .inl (E.2.1 0, 7, .inl a_bestGiven)), (q 53, .inl (E.2.1 0, 7, .inl a_given))] s.heap := hP
  have hl := lv_entry ([.ref h0, .int 7]) (n := 6) (Nat.le_of_ble_eq_true rfl)
  rw [lg_entry_eq]
  generalize (lg_sl ([.ref h0, .int 7]) ++ List.replicate (6 - (lg_sl ([.ref h0, .int 7])).length) Slot.unset).toArray = ls at hl ⊢
  have hl : lv_has ls 6 [(0, .ref h0), (1, .int 7)] := hl
  have fl130 := hts (.fieldLink RX12 130 "BoatsHomeModel" "least" "[I") (by first | exact List.mem_of_getElem? (i := 2) rfl | decide +kernel)
  have fl136 := hts (.fieldLink RX12 136 "BoatsHomeModel" "given" "[I") (by first | exact List.mem_of_getElem? (i := 7) rfl | decide +kernel)
  have fl139 := hts (.fieldLink RX12 139 "BoatsHomeModel" "bestGiven" "[I") (by first | exact List.mem_of_getElem? (i := 6) rfl | decide +kernel)
  have fl142 := hts (.fieldLink RX12 142 "BoatsHomeModel" "sets" "[I") (by first | exact List.mem_of_getElem? (i := 3) rfl | decide +kernel)
  have fl289 := hts (.fieldLink RX12 289 "BoatsHomeModel" "deliveries" "I") (by first | exact List.mem_of_getElem? (i := 1) rfl | decide +kernel)
  have fl300 := hts (.fieldLink RX12 300 "BoatsHomeModel" "bestDone" "I") (by first | exact List.mem_of_getElem? (i := 4) rfl | decide +kernel)
  have fl303 := hts (.fieldLink RX12 303 "BoatsHomeModel" "bestCost" "I") (by first | exact List.mem_of_getElem? (i := 5) rfl | decide +kernel)
  have inX12 : ∀ w ∈ u_ws RX12 TX12 59, w ∈ wsX12_give := by first | exact fun w h9 => (List.mem_cons_of_mem _ (List.mem_append_right _ h9)) | decide +kernel
  refine lv_iload_n hx hb dX12_give_0 rfl (lv_at hl 1 rfl) ?_
  refine lv_aload_n hx hb dX12_give_1 rfl (lv_at hl 0 rfl) ?_
  refine va_get (D := E.1) (ci := 12) (v := .int (nI dl)) (C := RX12) (T := TX12) (N := 59) hx hb hts inX12 hown hK hP 0 rfl rfl 41 (by decide) fl289 (fun _ h9 => h9) rfl dX12_give_2 ?_
  refine lv_icmp_ne (tgt := 170) hx hb dX12_give_5 (by decide) (fun c9 => absurd c9 (fun h => h (by rw [show dl = 7 by omega]; rfl))) (fun c9 => ?_)
  have hn9 : dl = 7 := by omega
  have hB9 := BG_pre hn9 hBG
  have hp9 : ∀ k : Nat, k < dl → gp k ≤ 4 := fun k hk => hp k (by omega)
  refine lv_iconst (v := 0) hx hb dX12_give_8 (by decide) ?_
  refine lv_istore_n (lv' := [(2, .int 0), (0, .ref h0), (1, .int 7)]) hx hb dX12_give_9 rfl hl (by decide) rfl (fun ls hl => ?_)
  refine lv_iconst (v := 0) hx hb dX12_give_10 (by decide) ?_
  refine lv_istore_n (lv' := [(3, .int 0), (2, .int 0), (0, .ref h0), (1, .int 7)]) hx hb dX12_give_11 rfl hl (by decide) rfl (fun ls hl => ?_)
  refine lv_iconst (v := 0) hx hb dX12_give_12 (by decide) ?_
  refine lv_istore (lv' := [(4, .int 0), (3, .int 0), (2, .int 0), (0, .ref h0), (1, .int 7)]) hx hb dX12_give_13 hl (by decide) rfl (fun ls hl => ?_)
  refine lv_iload hx hb dX12_give_15 (lv_at hl 0 rfl) ?_
  refine lv_iconst (v := 4) hx hb dX12_give_17 (by decide) ?_
  refine lv_icmp_ge (tgt := 102) hx hb dX12_give_18 (by decide) (fun c9 => absurd c9 (by decide)) (fun _ => ?_)
  refine lv_aload_n hx hb dX12_give_21 rfl (lv_at hl 3 rfl) ?_
  refine va_get (D := E.1) (ci := 12) (v := .ref (q 51)) (C := RX12) (T := TX12) (N := 59) hx hb hts inX12 hown hK hP 0 rfl rfl 51 (by decide) fl130 (fun _ h9 => h9) rfl dX12_give_22 ?_
  refine lv_sipush (v := 128) hx hb dX12_give_25 (by decide) ?_
  refine lv_iload hx hb dX12_give_28 (lv_at hl 0 rfl) ?_
  refine lv_imul hx hb dX12_give_30 ?_
  refine lv_topi (fun x_1 ex_1 => ?_)
  obtain rfl : x_1 = 0 := ex_1.trans (by decide +kernel)
  refine lv_aload_n hx hb dX12_give_31 rfl (lv_at hl 3 rfl) ?_
  refine va_get (D := E.1) (ci := 12) (v := .ref (q 55)) (C := RX12) (T := TX12) (N := 59) hx hb hts inX12 hown hK hP 0 rfl rfl 55 (by decide) fl142 (fun _ h9 => h9) rfl dX12_give_32 ?_
  refine lv_iload hx hb dX12_give_35 (lv_at hl 0 rfl) ?_
  refine va_iald hx hb hK hP 2 0 rfl rfl (show vp_in 0 4 from by unfold vp_in; decide) dX12_give_37 ?_
  refine lv_topi (fun x_2 ex_2 => ?_)
  have hv_3 : inR x_2 0 127 = true := by rw [ex_2]; exact hI_sets _ (vin_cl (show vp_in 0 4 from by unfold vp_in; decide))
  obtain ⟨w_4, hw_5, ew_6⟩ := inR_nI (n := 127) (by decide) hv_3
  subst ew_6
  have hw09 : w_4 = setOf gp 0 dl := by rw [hn9]; exact nI_inj (by omega) (s128 gp 0 (by decide)) (ex_2.trans (by rw [show Int32.toNatClampNeg 0 = 0 from by decide]; exact hSt 0 (by decide)))
  refine lv_iadd hx hb dX12_give_38 ?_
  refine lv_topi (fun x_7 ex_7 => ?_)
  obtain rfl : x_7 = nI (0 + w_4) := ex_7.trans (nI_add 0 w_4)
  have hi_8 : vp_in (nI (0 + w_4)) 512 := vp_in_nI (by omega) (by decide)
  refine va_iald hx hb hK hP 1 0 rfl rfl hi_8 dX12_give_39 ?_
  refine lv_topi (fun x_9 ex_9 => ?_)
  refine lv_iconst (v := (-1)) hx hb dX12_give_40 (by decide) ?_
  refine lv_icmp_ne (tgt := 45) hx hb dX12_give_41 (by decide) (fun c_10 => ?_) (fun c_10 => ?_)
  · have hn09 : ¬ a_least (128 * 0 + w_4) = -1 := fun q9 => c_10 (ex_9.trans (by rw [nI_clamp (by omega)]; exact q9))
    have hk0 : FF 0 (setOf gp 0 dl) := by rw [← hw09]; exact (hKm 0 (by decide) w_4 (by omega)).1.mp hn09
    refine lv_iload_n hx hb dX12_give_45 rfl (lv_at hl 1 rfl) ?_
    refine lv_aload_n hx hb dX12_give_46 rfl (lv_at hl 3 rfl) ?_
    refine va_get (D := E.1) (ci := 12) (v := .ref (q 51)) (C := RX12) (T := TX12) (N := 59) hx hb hts inX12 hown hK hP 0 rfl rfl 51 (by decide) fl130 (fun _ h9 => h9) rfl dX12_give_47 ?_
    refine lv_sipush (v := 128) hx hb dX12_give_50 (by decide) ?_
    refine lv_iload hx hb dX12_give_53 (lv_at hl 0 rfl) ?_
    refine lv_imul hx hb dX12_give_55 ?_
    refine lv_topi (fun x_11 ex_11 => ?_)
    obtain rfl : x_11 = 0 := ex_11.trans (by decide +kernel)
    refine lv_aload_n hx hb dX12_give_56 rfl (lv_at hl 3 rfl) ?_
    refine va_get (D := E.1) (ci := 12) (v := .ref (q 55)) (C := RX12) (T := TX12) (N := 59) hx hb hts inX12 hown hK hP 0 rfl rfl 55 (by decide) fl142 (fun _ h9 => h9) rfl dX12_give_57 ?_
    refine lv_iload hx hb dX12_give_60 (lv_at hl 0 rfl) ?_
    refine va_iald hx hb hK hP 2 0 rfl rfl (show vp_in 0 4 from by unfold vp_in; decide) dX12_give_62 ?_
    refine lv_topi (fun x_12 ex_12 => ?_)
    obtain rfl : x_12 = nI w_4 := ex_12.trans ex_2.symm
    refine lv_iadd hx hb dX12_give_63 ?_
    refine lv_topi (fun x_13 ex_13 => ?_)
    obtain rfl : x_13 = nI (0 + w_4) := ex_13.trans (nI_add 0 w_4)
    refine va_iald hx hb hK hP 1 0 rfl rfl hi_8 dX12_give_64 ?_
    refine lv_topi (fun x_14 ex_14 => ?_)
    refine lv_iadd hx hb dX12_give_65 ?_
    refine lv_topi (fun x_15 ex_15 => ?_)
    have hc09 := cost_nx (c := 0) (c2 := 1) (co_0 CC gp dl) (x := x_14) (co2 := x_15) ((by rw [ex_14, nI_clamp (by omega)]; exact (hKm 0 (by decide) w_4 (by omega)).2 hn09 : x_14.toInt = CC 0 w_4).trans (by rw [hw09])) (hCb 0 (by decide) _ hk0) ex_15 rfl (by decide)
    refine lv_istore_n (lv' := [(3, .int x_15), (4, .int 0), (2, .int 0), (0, .ref h0), (1, .int 7)]) hx hb dX12_give_66 rfl hl (by decide) rfl (fun ls hl => ?_)
    refine lv_aload_n hx hb dX12_give_67 rfl (lv_at hl 3 rfl) ?_
    refine va_get (D := E.1) (ci := 12) (v := .ref (q 55)) (C := RX12) (T := TX12) (N := 59) hx hb hts inX12 hown hK hP 0 rfl rfl 55 (by decide) fl142 (fun _ h9 => h9) rfl dX12_give_68 ?_
    refine lv_iload hx hb dX12_give_71 (lv_at hl 1 rfl) ?_
    refine va_iald hx hb hK hP 2 0 rfl rfl (show vp_in 0 4 from by unfold vp_in; decide) dX12_give_73 ?_
    refine lv_topi (fun x_16 ex_16 => ?_)
    obtain rfl : x_16 = nI w_4 := ex_16.trans ex_2.symm
    refine lv_istore (lv' := [(5, .int (nI w_4)), (3, .int x_15), (4, .int 0), (2, .int 0), (0, .ref h0), (1, .int 7)]) hx hb dX12_give_74 hl (by decide) rfl (fun ls hl => ?_)
    have hPl := hP.sub (ws' := [(h0, .inr (12, mG q i_taped i_size i_sort i_what i_at i_end i_worth i_faultKind i_faultPlace i_got i_worked (nI dl) i_isPlanned i_bestDone i_bestCost)), (q 51, .inl (E.2.1 0, 512, .inl a_least)), (q 55, .inl (E.2.1 0, 4, .inl a_sets)), (q 54, .inl (E.2.1 0, 7, .inl a_bestGiven)), (q 53, .inl (E.2.1 0, 7, .inl a_given))]) [0, 1, 2, 3, 4] rfl
    have hDl := hD.sub (ws' := [(h0, .inr (12, mG q i_taped i_size i_sort i_what i_at i_end i_worth i_faultKind i_faultPlace i_got i_worked (nI dl) i_isPlanned i_bestDone i_bestCost)), (q 51, .inl (E.2.1 0, 512, .inl a_least)), (q 55, .inl (E.2.1 0, 4, .inl a_sets)), (q 54, .inl (E.2.1 0, 7, .inl a_bestGiven)), (q 53, .inl (E.2.1 0, 7, .inl a_given))]) [0, 1, 2, 3, 4] (by decide) rfl
    refine lm_bits E h0 q i_taped i_size i_sort i_what i_at i_end i_worth i_faultKind i_faultPlace i_got i_worked i_isPlanned i_bestDone i_bestCost dl (0 + pc7 w_4) x_15 0 ([(q 51, .inl (E.2.1 0, 512, .inl a_least)), (q 55, .inl (E.2.1 0, 4, .inl a_sets)), (q 54, .inl (E.2.1 0, 7, .inl a_bestGiven)), (q 53, .inl (E.2.1 0, 7, .inl a_given))]) hx hb hml hown hts hkn hst hA  (fun n_17 H locs ls hm hP hD hS hl => ?_) (w_4 + 1) w_4 0 _ _ _ (Nat.lt_succ_self _) (by omega) rfl hPl hDl hS (lv_sub hl [4, 3, 1, 2, 0] rfl)
    have hP : va_P E.1 vwCl [(h0, .inr (12, mG q i_taped i_size i_sort i_what i_at i_end i_worth i_faultKind i_faultPlace i_got i_worked (nI dl) i_isPlanned i_bestDone i_bestCost)), (q 51, .inl (E.2.1 0, 512, .inl a_least)), (q 55, .inl (E.2.1 0, 4, .inl a_sets)), (q 54, .inl (E.2.1 0, 7, .inl a_bestGiven)), (q 53, .inl (E.2.1 0, 7, .inl a_given))] H := hP
    have hD : va_D A [(h0, .inr (12, mG q i_taped i_size i_sort i_what i_at i_end i_worth i_faultKind i_faultPlace i_got i_worked (nI dl) i_isPlanned i_bestDone i_bestCost)), (q 51, .inl (E.2.1 0, 512, .inl a_least)), (q 55, .inl (E.2.1 0, 4, .inl a_sets)), (q 54, .inl (E.2.1 0, 7, .inl a_bestGiven)), (q 53, .inl (E.2.1 0, 7, .inl a_given))] := hD
    have hm0 := hm
    refine lv_iinc (v := 1) (lv' := [(4, .int 1), (0, .ref h0), (2, .int (nI n_17)), (3, .int x_15)]) hx hb dX12_give_96 hl (k := 3) rfl (by decide) (by decide) rfl (fun ls hl => ?_)
    refine lv_goto (tgt := 15) hx hb dX12_give_99 (by decide) ?_
    refine lv_iload hx hb dX12_give_15 (lv_at hl 0 rfl) ?_
    refine lv_iconst (v := 4) hx hb dX12_give_17 (by decide) ?_
    refine lv_icmp_ge (tgt := 102) hx hb dX12_give_18 (by decide) (fun c9 => absurd c9 (by decide)) (fun _ => ?_)
    refine lv_aload_n hx hb dX12_give_21 rfl (lv_at hl 1 rfl) ?_
    refine va_get (D := E.1) (ci := 12) (v := .ref (q 51)) (C := RX12) (T := TX12) (N := 59) hx hb hts inX12 hown hK hP 0 rfl rfl 51 (by decide) fl130 (fun _ h9 => h9) rfl dX12_give_22 ?_
    refine lv_sipush (v := 128) hx hb dX12_give_25 (by decide) ?_
    refine lv_iload hx hb dX12_give_28 (lv_at hl 0 rfl) ?_
    refine lv_imul hx hb dX12_give_30 ?_
    refine lv_topi (fun x_18 ex_18 => ?_)
    obtain rfl : x_18 = 128 := ex_18.trans (by decide +kernel)
    refine lv_aload_n hx hb dX12_give_31 rfl (lv_at hl 1 rfl) ?_
    refine va_get (D := E.1) (ci := 12) (v := .ref (q 55)) (C := RX12) (T := TX12) (N := 59) hx hb hts inX12 hown hK hP 0 rfl rfl 55 (by decide) fl142 (fun _ h9 => h9) rfl dX12_give_32 ?_
    refine lv_iload hx hb dX12_give_35 (lv_at hl 0 rfl) ?_
    refine va_iald hx hb hK hP 2 0 rfl rfl (show vp_in 1 4 from by unfold vp_in; decide) dX12_give_37 ?_
    refine lv_topi (fun x_19 ex_19 => ?_)
    have hv_20 : inR x_19 0 127 = true := by rw [ex_19]; exact hI_sets _ (vin_cl (show vp_in 1 4 from by unfold vp_in; decide))
    obtain ⟨w_21, hw_22, ew_23⟩ := inR_nI (n := 127) (by decide) hv_20
    subst ew_23
    have hw19 : w_21 = setOf gp 1 dl := by rw [hn9]; exact nI_inj (by omega) (s128 gp 1 (by decide)) (ex_19.trans (by rw [show Int32.toNatClampNeg 1 = 1 from by decide]; exact hSt 1 (by decide)))
    refine lv_iadd hx hb dX12_give_38 ?_
    refine lv_topi (fun x_24 ex_24 => ?_)
    obtain rfl : x_24 = nI (128 + w_21) := ex_24.trans (nI_add 128 w_21)
    have hi_25 : vp_in (nI (128 + w_21)) 512 := vp_in_nI (by omega) (by decide)
    refine va_iald hx hb hK hP 1 0 rfl rfl hi_25 dX12_give_39 ?_
    refine lv_topi (fun x_26 ex_26 => ?_)
    refine lv_iconst (v := (-1)) hx hb dX12_give_40 (by decide) ?_
    refine lv_icmp_ne (tgt := 45) hx hb dX12_give_41 (by decide) (fun c_27 => ?_) (fun c_27 => ?_)
    · have hn19 : ¬ a_least (128 * 1 + w_21) = -1 := fun q9 => c_27 (ex_26.trans (by rw [nI_clamp (by omega)]; exact q9))
      have hk1 : FF 1 (setOf gp 1 dl) := by rw [← hw19]; exact (hKm 1 (by decide) w_21 (by omega)).1.mp hn19
      refine lv_iload_n hx hb dX12_give_45 rfl (lv_at hl 3 rfl) ?_
      refine lv_aload_n hx hb dX12_give_46 rfl (lv_at hl 1 rfl) ?_
      refine va_get (D := E.1) (ci := 12) (v := .ref (q 51)) (C := RX12) (T := TX12) (N := 59) hx hb hts inX12 hown hK hP 0 rfl rfl 51 (by decide) fl130 (fun _ h9 => h9) rfl dX12_give_47 ?_
      refine lv_sipush (v := 128) hx hb dX12_give_50 (by decide) ?_
      refine lv_iload hx hb dX12_give_53 (lv_at hl 0 rfl) ?_
      refine lv_imul hx hb dX12_give_55 ?_
      refine lv_topi (fun x_28 ex_28 => ?_)
      obtain rfl : x_28 = 128 := ex_28.trans (by decide +kernel)
      refine lv_aload_n hx hb dX12_give_56 rfl (lv_at hl 1 rfl) ?_
      refine va_get (D := E.1) (ci := 12) (v := .ref (q 55)) (C := RX12) (T := TX12) (N := 59) hx hb hts inX12 hown hK hP 0 rfl rfl 55 (by decide) fl142 (fun _ h9 => h9) rfl dX12_give_57 ?_
      refine lv_iload hx hb dX12_give_60 (lv_at hl 0 rfl) ?_
      refine va_iald hx hb hK hP 2 0 rfl rfl (show vp_in 1 4 from by unfold vp_in; decide) dX12_give_62 ?_
      refine lv_topi (fun x_29 ex_29 => ?_)
      obtain rfl : x_29 = nI w_21 := ex_29.trans ex_19.symm
      refine lv_iadd hx hb dX12_give_63 ?_
      refine lv_topi (fun x_30 ex_30 => ?_)
      obtain rfl : x_30 = nI (128 + w_21) := ex_30.trans (nI_add 128 w_21)
      refine va_iald hx hb hK hP 1 0 rfl rfl hi_25 dX12_give_64 ?_
      refine lv_topi (fun x_31 ex_31 => ?_)
      refine lv_iadd hx hb dX12_give_65 ?_
      refine lv_topi (fun x_32 ex_32 => ?_)
      have hc19 := cost_nx (c := 1) (c2 := 2) hc09 (x := x_31) (co2 := x_32) ((by rw [ex_31, nI_clamp (by omega)]; exact (hKm 1 (by decide) w_21 (by omega)).2 hn19 : x_31.toInt = CC 1 w_21).trans (by rw [hw19])) (hCb 1 (by decide) _ hk1) ex_32 rfl (by decide)
      refine lv_istore_n (lv' := [(3, .int x_32), (4, .int 1), (0, .ref h0), (2, .int (nI n_17))]) hx hb dX12_give_66 rfl hl (by decide) rfl (fun ls hl => ?_)
      refine lv_aload_n hx hb dX12_give_67 rfl (lv_at hl 2 rfl) ?_
      refine va_get (D := E.1) (ci := 12) (v := .ref (q 55)) (C := RX12) (T := TX12) (N := 59) hx hb hts inX12 hown hK hP 0 rfl rfl 55 (by decide) fl142 (fun _ h9 => h9) rfl dX12_give_68 ?_
      refine lv_iload hx hb dX12_give_71 (lv_at hl 1 rfl) ?_
      refine va_iald hx hb hK hP 2 0 rfl rfl (show vp_in 1 4 from by unfold vp_in; decide) dX12_give_73 ?_
      refine lv_topi (fun x_33 ex_33 => ?_)
      obtain rfl : x_33 = nI w_21 := ex_33.trans ex_19.symm
      refine lv_istore (lv' := [(5, .int (nI w_21)), (3, .int x_32), (4, .int 1), (0, .ref h0), (2, .int (nI n_17))]) hx hb dX12_give_74 hl (by decide) rfl (fun ls hl => ?_)
      have hPl := hP.sub (ws' := [(h0, .inr (12, mG q i_taped i_size i_sort i_what i_at i_end i_worth i_faultKind i_faultPlace i_got i_worked (nI dl) i_isPlanned i_bestDone i_bestCost)), (q 51, .inl (E.2.1 0, 512, .inl a_least)), (q 55, .inl (E.2.1 0, 4, .inl a_sets)), (q 54, .inl (E.2.1 0, 7, .inl a_bestGiven)), (q 53, .inl (E.2.1 0, 7, .inl a_given))]) [0, 1, 2, 3, 4] rfl
      have hDl := hD.sub (ws' := [(h0, .inr (12, mG q i_taped i_size i_sort i_what i_at i_end i_worth i_faultKind i_faultPlace i_got i_worked (nI dl) i_isPlanned i_bestDone i_bestCost)), (q 51, .inl (E.2.1 0, 512, .inl a_least)), (q 55, .inl (E.2.1 0, 4, .inl a_sets)), (q 54, .inl (E.2.1 0, 7, .inl a_bestGiven)), (q 53, .inl (E.2.1 0, 7, .inl a_given))]) [0, 1, 2, 3, 4] (by decide) rfl
      refine lm_bits E h0 q i_taped i_size i_sort i_what i_at i_end i_worth i_faultKind i_faultPlace i_got i_worked i_isPlanned i_bestDone i_bestCost dl (n_17 + pc7 w_21) x_32 1 ([(q 51, .inl (E.2.1 0, 512, .inl a_least)), (q 55, .inl (E.2.1 0, 4, .inl a_sets)), (q 54, .inl (E.2.1 0, 7, .inl a_bestGiven)), (q 53, .inl (E.2.1 0, 7, .inl a_given))]) hx hb hml hown hts hkn hst hA  (fun n_34 H locs ls hm hP hD hS hl => ?_) (w_21 + 1) w_21 n_17 _ _ _ (Nat.lt_succ_self _) (by omega) rfl hPl hDl hS (lv_sub hl [3, 4, 1, 2, 0] rfl)
      have hP : va_P E.1 vwCl [(h0, .inr (12, mG q i_taped i_size i_sort i_what i_at i_end i_worth i_faultKind i_faultPlace i_got i_worked (nI dl) i_isPlanned i_bestDone i_bestCost)), (q 51, .inl (E.2.1 0, 512, .inl a_least)), (q 55, .inl (E.2.1 0, 4, .inl a_sets)), (q 54, .inl (E.2.1 0, 7, .inl a_bestGiven)), (q 53, .inl (E.2.1 0, 7, .inl a_given))] H := hP
      have hD : va_D A [(h0, .inr (12, mG q i_taped i_size i_sort i_what i_at i_end i_worth i_faultKind i_faultPlace i_got i_worked (nI dl) i_isPlanned i_bestDone i_bestCost)), (q 51, .inl (E.2.1 0, 512, .inl a_least)), (q 55, .inl (E.2.1 0, 4, .inl a_sets)), (q 54, .inl (E.2.1 0, 7, .inl a_bestGiven)), (q 53, .inl (E.2.1 0, 7, .inl a_given))] := hD
      have hm1 := hm
      refine lv_iinc (v := 2) (lv' := [(4, .int 2), (0, .ref h0), (2, .int (nI n_34)), (3, .int x_32)]) hx hb dX12_give_96 hl (k := 3) rfl (by decide) (by decide) rfl (fun ls hl => ?_)
      refine lv_goto (tgt := 15) hx hb dX12_give_99 (by decide) ?_
      refine lv_iload hx hb dX12_give_15 (lv_at hl 0 rfl) ?_
      refine lv_iconst (v := 4) hx hb dX12_give_17 (by decide) ?_
      refine lv_icmp_ge (tgt := 102) hx hb dX12_give_18 (by decide) (fun c9 => absurd c9 (by decide)) (fun _ => ?_)
      refine lv_aload_n hx hb dX12_give_21 rfl (lv_at hl 1 rfl) ?_
      refine va_get (D := E.1) (ci := 12) (v := .ref (q 51)) (C := RX12) (T := TX12) (N := 59) hx hb hts inX12 hown hK hP 0 rfl rfl 51 (by decide) fl130 (fun _ h9 => h9) rfl dX12_give_22 ?_
      refine lv_sipush (v := 128) hx hb dX12_give_25 (by decide) ?_
      refine lv_iload hx hb dX12_give_28 (lv_at hl 0 rfl) ?_
      refine lv_imul hx hb dX12_give_30 ?_
      refine lv_topi (fun x_35 ex_35 => ?_)
      obtain rfl : x_35 = 256 := ex_35.trans (by decide +kernel)
      refine lv_aload_n hx hb dX12_give_31 rfl (lv_at hl 1 rfl) ?_
      refine va_get (D := E.1) (ci := 12) (v := .ref (q 55)) (C := RX12) (T := TX12) (N := 59) hx hb hts inX12 hown hK hP 0 rfl rfl 55 (by decide) fl142 (fun _ h9 => h9) rfl dX12_give_32 ?_
      refine lv_iload hx hb dX12_give_35 (lv_at hl 0 rfl) ?_
      refine va_iald hx hb hK hP 2 0 rfl rfl (show vp_in 2 4 from by unfold vp_in; decide) dX12_give_37 ?_
      refine lv_topi (fun x_36 ex_36 => ?_)
      have hv_37 : inR x_36 0 127 = true := by rw [ex_36]; exact hI_sets _ (vin_cl (show vp_in 2 4 from by unfold vp_in; decide))
      obtain ⟨w_38, hw_39, ew_40⟩ := inR_nI (n := 127) (by decide) hv_37
      subst ew_40
      have hw29 : w_38 = setOf gp 2 dl := by rw [hn9]; exact nI_inj (by omega) (s128 gp 2 (by decide)) (ex_36.trans (by rw [show Int32.toNatClampNeg 2 = 2 from by decide]; exact hSt 2 (by decide)))
      refine lv_iadd hx hb dX12_give_38 ?_
      refine lv_topi (fun x_41 ex_41 => ?_)
      obtain rfl : x_41 = nI (256 + w_38) := ex_41.trans (nI_add 256 w_38)
      have hi_42 : vp_in (nI (256 + w_38)) 512 := vp_in_nI (by omega) (by decide)
      refine va_iald hx hb hK hP 1 0 rfl rfl hi_42 dX12_give_39 ?_
      refine lv_topi (fun x_43 ex_43 => ?_)
      refine lv_iconst (v := (-1)) hx hb dX12_give_40 (by decide) ?_
      refine lv_icmp_ne (tgt := 45) hx hb dX12_give_41 (by decide) (fun c_44 => ?_) (fun c_44 => ?_)
      · have hn29 : ¬ a_least (128 * 2 + w_38) = -1 := fun q9 => c_44 (ex_43.trans (by rw [nI_clamp (by omega)]; exact q9))
        have hk2 : FF 2 (setOf gp 2 dl) := by rw [← hw29]; exact (hKm 2 (by decide) w_38 (by omega)).1.mp hn29
        refine lv_iload_n hx hb dX12_give_45 rfl (lv_at hl 3 rfl) ?_
        refine lv_aload_n hx hb dX12_give_46 rfl (lv_at hl 1 rfl) ?_
        refine va_get (D := E.1) (ci := 12) (v := .ref (q 51)) (C := RX12) (T := TX12) (N := 59) hx hb hts inX12 hown hK hP 0 rfl rfl 51 (by decide) fl130 (fun _ h9 => h9) rfl dX12_give_47 ?_
        refine lv_sipush (v := 128) hx hb dX12_give_50 (by decide) ?_
        refine lv_iload hx hb dX12_give_53 (lv_at hl 0 rfl) ?_
        refine lv_imul hx hb dX12_give_55 ?_
        refine lv_topi (fun x_45 ex_45 => ?_)
        obtain rfl : x_45 = 256 := ex_45.trans (by decide +kernel)
        refine lv_aload_n hx hb dX12_give_56 rfl (lv_at hl 1 rfl) ?_
        refine va_get (D := E.1) (ci := 12) (v := .ref (q 55)) (C := RX12) (T := TX12) (N := 59) hx hb hts inX12 hown hK hP 0 rfl rfl 55 (by decide) fl142 (fun _ h9 => h9) rfl dX12_give_57 ?_
        refine lv_iload hx hb dX12_give_60 (lv_at hl 0 rfl) ?_
        refine va_iald hx hb hK hP 2 0 rfl rfl (show vp_in 2 4 from by unfold vp_in; decide) dX12_give_62 ?_
        refine lv_topi (fun x_46 ex_46 => ?_)
        obtain rfl : x_46 = nI w_38 := ex_46.trans ex_36.symm
        refine lv_iadd hx hb dX12_give_63 ?_
        refine lv_topi (fun x_47 ex_47 => ?_)
        obtain rfl : x_47 = nI (256 + w_38) := ex_47.trans (nI_add 256 w_38)
        refine va_iald hx hb hK hP 1 0 rfl rfl hi_42 dX12_give_64 ?_
        refine lv_topi (fun x_48 ex_48 => ?_)
        refine lv_iadd hx hb dX12_give_65 ?_
        refine lv_topi (fun x_49 ex_49 => ?_)
        have hc29 := cost_nx (c := 2) (c2 := 3) hc19 (x := x_48) (co2 := x_49) ((by rw [ex_48, nI_clamp (by omega)]; exact (hKm 2 (by decide) w_38 (by omega)).2 hn29 : x_48.toInt = CC 2 w_38).trans (by rw [hw29])) (hCb 2 (by decide) _ hk2) ex_49 rfl (by decide)
        refine lv_istore_n (lv' := [(3, .int x_49), (4, .int 2), (0, .ref h0), (2, .int (nI n_34))]) hx hb dX12_give_66 rfl hl (by decide) rfl (fun ls hl => ?_)
        refine lv_aload_n hx hb dX12_give_67 rfl (lv_at hl 2 rfl) ?_
        refine va_get (D := E.1) (ci := 12) (v := .ref (q 55)) (C := RX12) (T := TX12) (N := 59) hx hb hts inX12 hown hK hP 0 rfl rfl 55 (by decide) fl142 (fun _ h9 => h9) rfl dX12_give_68 ?_
        refine lv_iload hx hb dX12_give_71 (lv_at hl 1 rfl) ?_
        refine va_iald hx hb hK hP 2 0 rfl rfl (show vp_in 2 4 from by unfold vp_in; decide) dX12_give_73 ?_
        refine lv_topi (fun x_50 ex_50 => ?_)
        obtain rfl : x_50 = nI w_38 := ex_50.trans ex_36.symm
        refine lv_istore (lv' := [(5, .int (nI w_38)), (3, .int x_49), (4, .int 2), (0, .ref h0), (2, .int (nI n_34))]) hx hb dX12_give_74 hl (by decide) rfl (fun ls hl => ?_)
        have hPl := hP.sub (ws' := [(h0, .inr (12, mG q i_taped i_size i_sort i_what i_at i_end i_worth i_faultKind i_faultPlace i_got i_worked (nI dl) i_isPlanned i_bestDone i_bestCost)), (q 51, .inl (E.2.1 0, 512, .inl a_least)), (q 55, .inl (E.2.1 0, 4, .inl a_sets)), (q 54, .inl (E.2.1 0, 7, .inl a_bestGiven)), (q 53, .inl (E.2.1 0, 7, .inl a_given))]) [0, 1, 2, 3, 4] rfl
        have hDl := hD.sub (ws' := [(h0, .inr (12, mG q i_taped i_size i_sort i_what i_at i_end i_worth i_faultKind i_faultPlace i_got i_worked (nI dl) i_isPlanned i_bestDone i_bestCost)), (q 51, .inl (E.2.1 0, 512, .inl a_least)), (q 55, .inl (E.2.1 0, 4, .inl a_sets)), (q 54, .inl (E.2.1 0, 7, .inl a_bestGiven)), (q 53, .inl (E.2.1 0, 7, .inl a_given))]) [0, 1, 2, 3, 4] (by decide) rfl
        refine lm_bits E h0 q i_taped i_size i_sort i_what i_at i_end i_worth i_faultKind i_faultPlace i_got i_worked i_isPlanned i_bestDone i_bestCost dl (n_34 + pc7 w_38) x_49 2 ([(q 51, .inl (E.2.1 0, 512, .inl a_least)), (q 55, .inl (E.2.1 0, 4, .inl a_sets)), (q 54, .inl (E.2.1 0, 7, .inl a_bestGiven)), (q 53, .inl (E.2.1 0, 7, .inl a_given))]) hx hb hml hown hts hkn hst hA  (fun n_51 H locs ls hm hP hD hS hl => ?_) (w_38 + 1) w_38 n_34 _ _ _ (Nat.lt_succ_self _) (by omega) rfl hPl hDl hS (lv_sub hl [3, 4, 1, 2, 0] rfl)
        have hP : va_P E.1 vwCl [(h0, .inr (12, mG q i_taped i_size i_sort i_what i_at i_end i_worth i_faultKind i_faultPlace i_got i_worked (nI dl) i_isPlanned i_bestDone i_bestCost)), (q 51, .inl (E.2.1 0, 512, .inl a_least)), (q 55, .inl (E.2.1 0, 4, .inl a_sets)), (q 54, .inl (E.2.1 0, 7, .inl a_bestGiven)), (q 53, .inl (E.2.1 0, 7, .inl a_given))] H := hP
        have hD : va_D A [(h0, .inr (12, mG q i_taped i_size i_sort i_what i_at i_end i_worth i_faultKind i_faultPlace i_got i_worked (nI dl) i_isPlanned i_bestDone i_bestCost)), (q 51, .inl (E.2.1 0, 512, .inl a_least)), (q 55, .inl (E.2.1 0, 4, .inl a_sets)), (q 54, .inl (E.2.1 0, 7, .inl a_bestGiven)), (q 53, .inl (E.2.1 0, 7, .inl a_given))] := hD
        have hm2 := hm
        refine lv_iinc (v := 3) (lv' := [(4, .int 3), (0, .ref h0), (2, .int (nI n_51)), (3, .int x_49)]) hx hb dX12_give_96 hl (k := 3) rfl (by decide) (by decide) rfl (fun ls hl => ?_)
        refine lv_goto (tgt := 15) hx hb dX12_give_99 (by decide) ?_
        refine lv_iload hx hb dX12_give_15 (lv_at hl 0 rfl) ?_
        refine lv_iconst (v := 4) hx hb dX12_give_17 (by decide) ?_
        refine lv_icmp_ge (tgt := 102) hx hb dX12_give_18 (by decide) (fun c9 => absurd c9 (by decide)) (fun _ => ?_)
        refine lv_aload_n hx hb dX12_give_21 rfl (lv_at hl 1 rfl) ?_
        refine va_get (D := E.1) (ci := 12) (v := .ref (q 51)) (C := RX12) (T := TX12) (N := 59) hx hb hts inX12 hown hK hP 0 rfl rfl 51 (by decide) fl130 (fun _ h9 => h9) rfl dX12_give_22 ?_
        refine lv_sipush (v := 128) hx hb dX12_give_25 (by decide) ?_
        refine lv_iload hx hb dX12_give_28 (lv_at hl 0 rfl) ?_
        refine lv_imul hx hb dX12_give_30 ?_
        refine lv_topi (fun x_52 ex_52 => ?_)
        obtain rfl : x_52 = 384 := ex_52.trans (by decide +kernel)
        refine lv_aload_n hx hb dX12_give_31 rfl (lv_at hl 1 rfl) ?_
        refine va_get (D := E.1) (ci := 12) (v := .ref (q 55)) (C := RX12) (T := TX12) (N := 59) hx hb hts inX12 hown hK hP 0 rfl rfl 55 (by decide) fl142 (fun _ h9 => h9) rfl dX12_give_32 ?_
        refine lv_iload hx hb dX12_give_35 (lv_at hl 0 rfl) ?_
        refine va_iald hx hb hK hP 2 0 rfl rfl (show vp_in 3 4 from by unfold vp_in; decide) dX12_give_37 ?_
        refine lv_topi (fun x_53 ex_53 => ?_)
        have hv_54 : inR x_53 0 127 = true := by rw [ex_53]; exact hI_sets _ (vin_cl (show vp_in 3 4 from by unfold vp_in; decide))
        obtain ⟨w_55, hw_56, ew_57⟩ := inR_nI (n := 127) (by decide) hv_54
        subst ew_57
        have hw39 : w_55 = setOf gp 3 dl := by rw [hn9]; exact nI_inj (by omega) (s128 gp 3 (by decide)) (ex_53.trans (by rw [show Int32.toNatClampNeg 3 = 3 from by decide]; exact hSt 3 (by decide)))
        refine lv_iadd hx hb dX12_give_38 ?_
        refine lv_topi (fun x_58 ex_58 => ?_)
        obtain rfl : x_58 = nI (384 + w_55) := ex_58.trans (nI_add 384 w_55)
        have hi_59 : vp_in (nI (384 + w_55)) 512 := vp_in_nI (by omega) (by decide)
        refine va_iald hx hb hK hP 1 0 rfl rfl hi_59 dX12_give_39 ?_
        refine lv_topi (fun x_60 ex_60 => ?_)
        refine lv_iconst (v := (-1)) hx hb dX12_give_40 (by decide) ?_
        refine lv_icmp_ne (tgt := 45) hx hb dX12_give_41 (by decide) (fun c_61 => ?_) (fun c_61 => ?_)
        · have hn39 : ¬ a_least (128 * 3 + w_55) = -1 := fun q9 => c_61 (ex_60.trans (by rw [nI_clamp (by omega)]; exact q9))
          have hk3 : FF 3 (setOf gp 3 dl) := by rw [← hw39]; exact (hKm 3 (by decide) w_55 (by omega)).1.mp hn39
          refine lv_iload_n hx hb dX12_give_45 rfl (lv_at hl 3 rfl) ?_
          refine lv_aload_n hx hb dX12_give_46 rfl (lv_at hl 1 rfl) ?_
          refine va_get (D := E.1) (ci := 12) (v := .ref (q 51)) (C := RX12) (T := TX12) (N := 59) hx hb hts inX12 hown hK hP 0 rfl rfl 51 (by decide) fl130 (fun _ h9 => h9) rfl dX12_give_47 ?_
          refine lv_sipush (v := 128) hx hb dX12_give_50 (by decide) ?_
          refine lv_iload hx hb dX12_give_53 (lv_at hl 0 rfl) ?_
          refine lv_imul hx hb dX12_give_55 ?_
          refine lv_topi (fun x_62 ex_62 => ?_)
          obtain rfl : x_62 = 384 := ex_62.trans (by decide +kernel)
          refine lv_aload_n hx hb dX12_give_56 rfl (lv_at hl 1 rfl) ?_
          refine va_get (D := E.1) (ci := 12) (v := .ref (q 55)) (C := RX12) (T := TX12) (N := 59) hx hb hts inX12 hown hK hP 0 rfl rfl 55 (by decide) fl142 (fun _ h9 => h9) rfl dX12_give_57 ?_
          refine lv_iload hx hb dX12_give_60 (lv_at hl 0 rfl) ?_
          refine va_iald hx hb hK hP 2 0 rfl rfl (show vp_in 3 4 from by unfold vp_in; decide) dX12_give_62 ?_
          refine lv_topi (fun x_63 ex_63 => ?_)
          obtain rfl : x_63 = nI w_55 := ex_63.trans ex_53.symm
          refine lv_iadd hx hb dX12_give_63 ?_
          refine lv_topi (fun x_64 ex_64 => ?_)
          obtain rfl : x_64 = nI (384 + w_55) := ex_64.trans (nI_add 384 w_55)
          refine va_iald hx hb hK hP 1 0 rfl rfl hi_59 dX12_give_64 ?_
          refine lv_topi (fun x_65 ex_65 => ?_)
          refine lv_iadd hx hb dX12_give_65 ?_
          refine lv_topi (fun x_66 ex_66 => ?_)
          have hc39 := cost_nx (c := 3) (c2 := 4) hc29 (x := x_65) (co2 := x_66) ((by rw [ex_65, nI_clamp (by omega)]; exact (hKm 3 (by decide) w_55 (by omega)).2 hn39 : x_65.toInt = CC 3 w_55).trans (by rw [hw39])) (hCb 3 (by decide) _ hk3) ex_66 rfl (by decide)
          refine lv_istore_n (lv' := [(3, .int x_66), (4, .int 3), (0, .ref h0), (2, .int (nI n_51))]) hx hb dX12_give_66 rfl hl (by decide) rfl (fun ls hl => ?_)
          refine lv_aload_n hx hb dX12_give_67 rfl (lv_at hl 2 rfl) ?_
          refine va_get (D := E.1) (ci := 12) (v := .ref (q 55)) (C := RX12) (T := TX12) (N := 59) hx hb hts inX12 hown hK hP 0 rfl rfl 55 (by decide) fl142 (fun _ h9 => h9) rfl dX12_give_68 ?_
          refine lv_iload hx hb dX12_give_71 (lv_at hl 1 rfl) ?_
          refine va_iald hx hb hK hP 2 0 rfl rfl (show vp_in 3 4 from by unfold vp_in; decide) dX12_give_73 ?_
          refine lv_topi (fun x_67 ex_67 => ?_)
          obtain rfl : x_67 = nI w_55 := ex_67.trans ex_53.symm
          refine lv_istore (lv' := [(5, .int (nI w_55)), (3, .int x_66), (4, .int 3), (0, .ref h0), (2, .int (nI n_51))]) hx hb dX12_give_74 hl (by decide) rfl (fun ls hl => ?_)
          have hPl := hP.sub (ws' := [(h0, .inr (12, mG q i_taped i_size i_sort i_what i_at i_end i_worth i_faultKind i_faultPlace i_got i_worked (nI dl) i_isPlanned i_bestDone i_bestCost)), (q 51, .inl (E.2.1 0, 512, .inl a_least)), (q 55, .inl (E.2.1 0, 4, .inl a_sets)), (q 54, .inl (E.2.1 0, 7, .inl a_bestGiven)), (q 53, .inl (E.2.1 0, 7, .inl a_given))]) [0, 1, 2, 3, 4] rfl
          have hDl := hD.sub (ws' := [(h0, .inr (12, mG q i_taped i_size i_sort i_what i_at i_end i_worth i_faultKind i_faultPlace i_got i_worked (nI dl) i_isPlanned i_bestDone i_bestCost)), (q 51, .inl (E.2.1 0, 512, .inl a_least)), (q 55, .inl (E.2.1 0, 4, .inl a_sets)), (q 54, .inl (E.2.1 0, 7, .inl a_bestGiven)), (q 53, .inl (E.2.1 0, 7, .inl a_given))]) [0, 1, 2, 3, 4] (by decide) rfl
          refine lm_bits E h0 q i_taped i_size i_sort i_what i_at i_end i_worth i_faultKind i_faultPlace i_got i_worked i_isPlanned i_bestDone i_bestCost dl (n_51 + pc7 w_55) x_66 3 ([(q 51, .inl (E.2.1 0, 512, .inl a_least)), (q 55, .inl (E.2.1 0, 4, .inl a_sets)), (q 54, .inl (E.2.1 0, 7, .inl a_bestGiven)), (q 53, .inl (E.2.1 0, 7, .inl a_given))]) hx hb hml hown hts hkn hst hA  (fun n_68 H locs ls hm hP hD hS hl => ?_) (w_55 + 1) w_55 n_51 _ _ _ (Nat.lt_succ_self _) (by omega) rfl hPl hDl hS (lv_sub hl [3, 4, 1, 2, 0] rfl)
          have hP : va_P E.1 vwCl [(h0, .inr (12, mG q i_taped i_size i_sort i_what i_at i_end i_worth i_faultKind i_faultPlace i_got i_worked (nI dl) i_isPlanned i_bestDone i_bestCost)), (q 51, .inl (E.2.1 0, 512, .inl a_least)), (q 55, .inl (E.2.1 0, 4, .inl a_sets)), (q 54, .inl (E.2.1 0, 7, .inl a_bestGiven)), (q 53, .inl (E.2.1 0, 7, .inl a_given))] H := hP
          have hD : va_D A [(h0, .inr (12, mG q i_taped i_size i_sort i_what i_at i_end i_worth i_faultKind i_faultPlace i_got i_worked (nI dl) i_isPlanned i_bestDone i_bestCost)), (q 51, .inl (E.2.1 0, 512, .inl a_least)), (q 55, .inl (E.2.1 0, 4, .inl a_sets)), (q 54, .inl (E.2.1 0, 7, .inl a_bestGiven)), (q 53, .inl (E.2.1 0, 7, .inl a_given))] := hD
          have hm3 := hm
          refine lv_iinc (v := 4) (lv' := [(4, .int 4), (0, .ref h0), (2, .int (nI n_68)), (3, .int x_66)]) hx hb dX12_give_96 hl (k := 3) rfl (by decide) (by decide) rfl (fun ls hl => ?_)
          refine lv_goto (tgt := 15) hx hb dX12_give_99 (by decide) ?_
          refine lv_iload hx hb dX12_give_15 (lv_at hl 0 rfl) ?_
          refine lv_iconst (v := 4) hx hb dX12_give_17 (by decide) ?_
          refine lv_icmp_ge (tgt := 102) hx hb dX12_give_18 (by decide) (fun _ => ?_) (fun c9 => absurd c9 (by decide))
          have p70 := pc7_le w_4 (by omega)
          have p71 := pc7_le w_21 (by omega)
          have p72 := pc7_le w_38 (by omega)
          have p73 := pc7_le w_55 (by omega)
          have hcn9 : n_68 = cnt gp dl := by rw [← pc_sum gp dl hdl, ← hw09, ← hw19, ← hw29, ← hw39]; omega
          refine lv_iload_n hx hb dX12_give_102 rfl (lv_at hl 2 rfl) ?_
          refine lv_aload_n hx hb dX12_give_103 rfl (lv_at hl 1 rfl) ?_
          refine va_get (D := E.1) (ci := 12) (v := .int i_bestDone) (C := RX12) (T := TX12) (N := 59) hx hb hts inX12 hown hK hP 0 rfl rfl 57 (by decide) fl300 (fun _ h9 => h9) rfl dX12_give_104 ?_
          refine lv_icmp_lt (tgt := 126) hx hb dX12_give_107 (by decide) (fun c_69 => ?_) (fun c_69 => ?_)
          · have hP9 := hP.sub (ws' := [(h0, .inr (12, mG q i_taped i_size i_sort i_what i_at i_end i_worth i_faultKind i_faultPlace i_got i_worked (nI dl) i_isPlanned i_bestDone i_bestCost)), (q 51, .inl (E.2.1 0, 512, .inl a_least)), (q 55, .inl (E.2.1 0, 4, .inl a_sets)), (q 54, .inl (E.2.1 0, 7, .inl a_bestGiven)), (q 53, .inl (E.2.1 0, 7, .inl a_given))]) [0, 1, 2, 3, 4] rfl
            have hD9 := hD.sub (ws' := [(h0, .inr (12, mG q i_taped i_size i_sort i_what i_at i_end i_worth i_faultKind i_faultPlace i_got i_worked (nI dl) i_isPlanned i_bestDone i_bestCost)), (q 51, .inl (E.2.1 0, 512, .inl a_least)), (q 55, .inl (E.2.1 0, 4, .inl a_sets)), (q 54, .inl (E.2.1 0, 7, .inl a_bestGiven)), (q 53, .inl (E.2.1 0, 7, .inl a_given))]) [0, 1, 2, 3, 4] (by decide) rfl
            exact W.vret hx hb hr (fun t ht hW => ⟨⟨(i_bestDone, i_bestCost, a_sets, a_bestGiven, a_given), rfl, (BG_post hn9 (BG_old hdl hp9 (Or.inl (by rw [← hcn9]; exact gx_lt (by omega) c_69)) hB9)), hI_sets, (fun i hi => rfl), (fun k hk => rfl), by rw [ht]; exact hP9, hD9⟩, hS.F ht⟩) hS.2.2 dX12_give_126
          · refine lv_iload_n hx hb dX12_give_110 rfl (lv_at hl 2 rfl) ?_
            refine lv_aload_n hx hb dX12_give_111 rfl (lv_at hl 1 rfl) ?_
            refine va_get (D := E.1) (ci := 12) (v := .int i_bestDone) (C := RX12) (T := TX12) (N := 59) hx hb hts inX12 hown hK hP 0 rfl rfl 57 (by decide) fl300 (fun _ h9 => h9) rfl dX12_give_112 ?_
            refine lv_icmp_ne (tgt := 127) hx hb dX12_give_115 (by decide) (fun c_70 => ?_) (fun c_70 => ?_)
            · refine lv_aload_n hx hb dX12_give_127 rfl (lv_at hl 1 rfl) ?_
              refine lv_iload_n hx hb dX12_give_128 rfl (lv_at hl 2 rfl) ?_
              refine va_put (D := E.1) (ci := 12) (v := .int (nI n_68)) (ty := .int) (C := RX12) (T := TX12) (N := 59) hx hb hts inX12 tyX12 tyX12_ok nmX12 hown hK hP hD hS 0 rfl rfl 57 (by decide) fl300 (fun _ h9 => h9) rfl (by decide +kernel) rfl rfl (Nat.le_of_ble_eq_true rfl) dX12_give_129 (fun H locs hP hD hS => ?_)
              have hP : va_P E.1 vwCl [(h0, .inr (12, mG q i_taped i_size i_sort i_what i_at i_end i_worth i_faultKind i_faultPlace i_got i_worked (nI dl) i_isPlanned (nI n_68) i_bestCost)), (q 51, .inl (E.2.1 0, 512, .inl a_least)), (q 55, .inl (E.2.1 0, 4, .inl a_sets)), (q 54, .inl (E.2.1 0, 7, .inl a_bestGiven)), (q 53, .inl (E.2.1 0, 7, .inl a_given))] H := hP
              have hD : va_D A [(h0, .inr (12, mG q i_taped i_size i_sort i_what i_at i_end i_worth i_faultKind i_faultPlace i_got i_worked (nI dl) i_isPlanned (nI n_68) i_bestCost)), (q 51, .inl (E.2.1 0, 512, .inl a_least)), (q 55, .inl (E.2.1 0, 4, .inl a_sets)), (q 54, .inl (E.2.1 0, 7, .inl a_bestGiven)), (q 53, .inl (E.2.1 0, 7, .inl a_given))] := hD
              refine lv_aload_n hx hb dX12_give_132 rfl (lv_at hl 1 rfl) ?_
              refine lv_iload_n hx hb dX12_give_133 rfl (lv_at hl 3 rfl) ?_
              refine va_put (D := E.1) (ci := 12) (v := .int x_66) (ty := .int) (C := RX12) (T := TX12) (N := 59) hx hb hts inX12 tyX12 tyX12_ok nmX12 hown hK hP hD hS 0 rfl rfl 58 (by decide) fl303 (fun _ h9 => h9) rfl (by decide +kernel) rfl rfl (Nat.le_of_ble_eq_true rfl) dX12_give_134 (fun H locs hP hD hS => ?_)
              have hP : va_P E.1 vwCl [(h0, .inr (12, mG q i_taped i_size i_sort i_what i_at i_end i_worth i_faultKind i_faultPlace i_got i_worked (nI dl) i_isPlanned (nI n_68) x_66)), (q 51, .inl (E.2.1 0, 512, .inl a_least)), (q 55, .inl (E.2.1 0, 4, .inl a_sets)), (q 54, .inl (E.2.1 0, 7, .inl a_bestGiven)), (q 53, .inl (E.2.1 0, 7, .inl a_given))] H := hP
              have hD : va_D A [(h0, .inr (12, mG q i_taped i_size i_sort i_what i_at i_end i_worth i_faultKind i_faultPlace i_got i_worked (nI dl) i_isPlanned (nI n_68) x_66)), (q 51, .inl (E.2.1 0, 512, .inl a_least)), (q 55, .inl (E.2.1 0, 4, .inl a_sets)), (q 54, .inl (E.2.1 0, 7, .inl a_bestGiven)), (q 53, .inl (E.2.1 0, 7, .inl a_given))] := hD
              refine lv_iconst (v := 0) hx hb dX12_give_137 (by decide) ?_
              refine lv_istore (lv' := [(4, .int 0), (0, .ref h0), (2, .int (nI n_68)), (3, .int x_66)]) hx hb dX12_give_138 hl (by decide) rfl (fun ls hl => ?_)
              have hPl := hP.sub (ws' := [(h0, .inr (12, mG q i_taped i_size i_sort i_what i_at i_end i_worth i_faultKind i_faultPlace i_got i_worked (nI dl) i_isPlanned (nI n_68) x_66)), (q 53, .inl (E.2.1 0, 7, .inl a_given)), (q 54, .inl (E.2.1 0, 7, .inl a_bestGiven)), (q 51, .inl (E.2.1 0, 512, .inl a_least)), (q 55, .inl (E.2.1 0, 4, .inl a_sets))]) [0, 4, 3, 1, 2] rfl
              have hDl := hD.sub (ws' := [(h0, .inr (12, mG q i_taped i_size i_sort i_what i_at i_end i_worth i_faultKind i_faultPlace i_got i_worked (nI dl) i_isPlanned (nI n_68) x_66)), (q 53, .inl (E.2.1 0, 7, .inl a_given)), (q 54, .inl (E.2.1 0, 7, .inl a_bestGiven)), (q 51, .inl (E.2.1 0, 512, .inl a_least)), (q 55, .inl (E.2.1 0, 4, .inl a_sets))]) [0, 4, 3, 1, 2] (by decide) rfl
              refine lm_copy E h0 q i_taped i_size i_sort i_what i_at i_end i_worth i_faultKind i_faultPlace i_got i_worked i_isPlanned (nI n_68) x_66 dl a_given ([(q 51, .inl (E.2.1 0, 512, .inl a_least)), (q 55, .inl (E.2.1 0, 4, .inl a_sets))]) hx hb hml hown hts hkn hst hA (by omega) (fun n_71 H locs ls hcp hP hD hS hl => ?_) 9 0 a_bestGiven _ _ _ (by omega) (by omega) (fun j hj => absurd hj (Nat.not_lt_zero j)) hPl hDl hS (lv_sub hl [1, 0] rfl)
              have hP : va_P E.1 vwCl [(h0, .inr (12, mG q i_taped i_size i_sort i_what i_at i_end i_worth i_faultKind i_faultPlace i_got i_worked (nI dl) i_isPlanned (nI n_68) x_66)), (q 53, .inl (E.2.1 0, 7, .inl a_given)), (q 54, .inl (E.2.1 0, 7, .inl n_71)), (q 51, .inl (E.2.1 0, 512, .inl a_least)), (q 55, .inl (E.2.1 0, 4, .inl a_sets))] H := hP
              have hD : va_D A [(h0, .inr (12, mG q i_taped i_size i_sort i_what i_at i_end i_worth i_faultKind i_faultPlace i_got i_worked (nI dl) i_isPlanned (nI n_68) x_66)), (q 53, .inl (E.2.1 0, 7, .inl a_given)), (q 54, .inl (E.2.1 0, 7, .inl n_71)), (q 51, .inl (E.2.1 0, 512, .inl a_least)), (q 55, .inl (E.2.1 0, 4, .inl a_sets))] := hD
              have hP9 := hP.sub (ws' := [(h0, .inr (12, mG q i_taped i_size i_sort i_what i_at i_end i_worth i_faultKind i_faultPlace i_got i_worked (nI dl) i_isPlanned (nI n_68) x_66)), (q 51, .inl (E.2.1 0, 512, .inl a_least)), (q 55, .inl (E.2.1 0, 4, .inl a_sets)), (q 54, .inl (E.2.1 0, 7, .inl n_71)), (q 53, .inl (E.2.1 0, 7, .inl a_given))]) [0, 3, 4, 2, 1] rfl
              have hD9 := hD.sub (ws' := [(h0, .inr (12, mG q i_taped i_size i_sort i_what i_at i_end i_worth i_faultKind i_faultPlace i_got i_worked (nI dl) i_isPlanned (nI n_68) x_66)), (q 51, .inl (E.2.1 0, 512, .inl a_least)), (q 55, .inl (E.2.1 0, 4, .inl a_sets)), (q 54, .inl (E.2.1 0, 7, .inl n_71)), (q 53, .inl (E.2.1 0, 7, .inl a_given))]) [0, 3, 4, 2, 1] (by decide) rfl
              exact W.vret hx hb hr (fun t ht hW => ⟨⟨(nI n_68, x_66, a_sets, n_71, a_given), rfl, (BG_post hn9 (BG_new hdl hp9 (F4_all hk0 hk1 hk2 hk3) (Or.inl (by rw [← hcn9]; exact gx_gt (by omega) c_69 c_70)) (by rw [← hcn9]) hc39.1 (fun j hj => (hcp j hj).trans (hGv j (by omega))) hB9)), hI_sets, (fun i hi => rfl), (fun k hk => rfl), by rw [ht]; exact hP9, hD9⟩, hS.F ht⟩) hS.2.2 dX12_give_169
            · refine lv_iload_n hx hb dX12_give_118 rfl (lv_at hl 3 rfl) ?_
              refine lv_aload_n hx hb dX12_give_119 rfl (lv_at hl 1 rfl) ?_
              refine va_get (D := E.1) (ci := 12) (v := .int i_bestCost) (C := RX12) (T := TX12) (N := 59) hx hb hts inX12 hown hK hP 0 rfl rfl 58 (by decide) fl303 (fun _ h9 => h9) rfl dX12_give_120 ?_
              refine lv_icmp_lt (tgt := 127) hx hb dX12_give_123 (by decide) (fun c_72 => ?_) (fun c_72 => ?_)
              · refine lv_aload_n hx hb dX12_give_127 rfl (lv_at hl 1 rfl) ?_
                refine lv_iload_n hx hb dX12_give_128 rfl (lv_at hl 2 rfl) ?_
                refine va_put (D := E.1) (ci := 12) (v := .int (nI n_68)) (ty := .int) (C := RX12) (T := TX12) (N := 59) hx hb hts inX12 tyX12 tyX12_ok nmX12 hown hK hP hD hS 0 rfl rfl 57 (by decide) fl300 (fun _ h9 => h9) rfl (by decide +kernel) rfl rfl (Nat.le_of_ble_eq_true rfl) dX12_give_129 (fun H locs hP hD hS => ?_)
                have hP : va_P E.1 vwCl [(h0, .inr (12, mG q i_taped i_size i_sort i_what i_at i_end i_worth i_faultKind i_faultPlace i_got i_worked (nI dl) i_isPlanned (nI n_68) i_bestCost)), (q 51, .inl (E.2.1 0, 512, .inl a_least)), (q 55, .inl (E.2.1 0, 4, .inl a_sets)), (q 54, .inl (E.2.1 0, 7, .inl a_bestGiven)), (q 53, .inl (E.2.1 0, 7, .inl a_given))] H := hP
                have hD : va_D A [(h0, .inr (12, mG q i_taped i_size i_sort i_what i_at i_end i_worth i_faultKind i_faultPlace i_got i_worked (nI dl) i_isPlanned (nI n_68) i_bestCost)), (q 51, .inl (E.2.1 0, 512, .inl a_least)), (q 55, .inl (E.2.1 0, 4, .inl a_sets)), (q 54, .inl (E.2.1 0, 7, .inl a_bestGiven)), (q 53, .inl (E.2.1 0, 7, .inl a_given))] := hD
                refine lv_aload_n hx hb dX12_give_132 rfl (lv_at hl 1 rfl) ?_
                refine lv_iload_n hx hb dX12_give_133 rfl (lv_at hl 3 rfl) ?_
                refine va_put (D := E.1) (ci := 12) (v := .int x_66) (ty := .int) (C := RX12) (T := TX12) (N := 59) hx hb hts inX12 tyX12 tyX12_ok nmX12 hown hK hP hD hS 0 rfl rfl 58 (by decide) fl303 (fun _ h9 => h9) rfl (by decide +kernel) rfl rfl (Nat.le_of_ble_eq_true rfl) dX12_give_134 (fun H locs hP hD hS => ?_)
                have hP : va_P E.1 vwCl [(h0, .inr (12, mG q i_taped i_size i_sort i_what i_at i_end i_worth i_faultKind i_faultPlace i_got i_worked (nI dl) i_isPlanned (nI n_68) x_66)), (q 51, .inl (E.2.1 0, 512, .inl a_least)), (q 55, .inl (E.2.1 0, 4, .inl a_sets)), (q 54, .inl (E.2.1 0, 7, .inl a_bestGiven)), (q 53, .inl (E.2.1 0, 7, .inl a_given))] H := hP
                have hD : va_D A [(h0, .inr (12, mG q i_taped i_size i_sort i_what i_at i_end i_worth i_faultKind i_faultPlace i_got i_worked (nI dl) i_isPlanned (nI n_68) x_66)), (q 51, .inl (E.2.1 0, 512, .inl a_least)), (q 55, .inl (E.2.1 0, 4, .inl a_sets)), (q 54, .inl (E.2.1 0, 7, .inl a_bestGiven)), (q 53, .inl (E.2.1 0, 7, .inl a_given))] := hD
                refine lv_iconst (v := 0) hx hb dX12_give_137 (by decide) ?_
                refine lv_istore (lv' := [(4, .int 0), (0, .ref h0), (2, .int (nI n_68)), (3, .int x_66)]) hx hb dX12_give_138 hl (by decide) rfl (fun ls hl => ?_)
                have hPl := hP.sub (ws' := [(h0, .inr (12, mG q i_taped i_size i_sort i_what i_at i_end i_worth i_faultKind i_faultPlace i_got i_worked (nI dl) i_isPlanned (nI n_68) x_66)), (q 53, .inl (E.2.1 0, 7, .inl a_given)), (q 54, .inl (E.2.1 0, 7, .inl a_bestGiven)), (q 51, .inl (E.2.1 0, 512, .inl a_least)), (q 55, .inl (E.2.1 0, 4, .inl a_sets))]) [0, 4, 3, 1, 2] rfl
                have hDl := hD.sub (ws' := [(h0, .inr (12, mG q i_taped i_size i_sort i_what i_at i_end i_worth i_faultKind i_faultPlace i_got i_worked (nI dl) i_isPlanned (nI n_68) x_66)), (q 53, .inl (E.2.1 0, 7, .inl a_given)), (q 54, .inl (E.2.1 0, 7, .inl a_bestGiven)), (q 51, .inl (E.2.1 0, 512, .inl a_least)), (q 55, .inl (E.2.1 0, 4, .inl a_sets))]) [0, 4, 3, 1, 2] (by decide) rfl
                refine lm_copy E h0 q i_taped i_size i_sort i_what i_at i_end i_worth i_faultKind i_faultPlace i_got i_worked i_isPlanned (nI n_68) x_66 dl a_given ([(q 51, .inl (E.2.1 0, 512, .inl a_least)), (q 55, .inl (E.2.1 0, 4, .inl a_sets))]) hx hb hml hown hts hkn hst hA (by omega) (fun n_73 H locs ls hcp hP hD hS hl => ?_) 9 0 a_bestGiven _ _ _ (by omega) (by omega) (fun j hj => absurd hj (Nat.not_lt_zero j)) hPl hDl hS (lv_sub hl [1, 0] rfl)
                have hP : va_P E.1 vwCl [(h0, .inr (12, mG q i_taped i_size i_sort i_what i_at i_end i_worth i_faultKind i_faultPlace i_got i_worked (nI dl) i_isPlanned (nI n_68) x_66)), (q 53, .inl (E.2.1 0, 7, .inl a_given)), (q 54, .inl (E.2.1 0, 7, .inl n_73)), (q 51, .inl (E.2.1 0, 512, .inl a_least)), (q 55, .inl (E.2.1 0, 4, .inl a_sets))] H := hP
                have hD : va_D A [(h0, .inr (12, mG q i_taped i_size i_sort i_what i_at i_end i_worth i_faultKind i_faultPlace i_got i_worked (nI dl) i_isPlanned (nI n_68) x_66)), (q 53, .inl (E.2.1 0, 7, .inl a_given)), (q 54, .inl (E.2.1 0, 7, .inl n_73)), (q 51, .inl (E.2.1 0, 512, .inl a_least)), (q 55, .inl (E.2.1 0, 4, .inl a_sets))] := hD
                have hP9 := hP.sub (ws' := [(h0, .inr (12, mG q i_taped i_size i_sort i_what i_at i_end i_worth i_faultKind i_faultPlace i_got i_worked (nI dl) i_isPlanned (nI n_68) x_66)), (q 51, .inl (E.2.1 0, 512, .inl a_least)), (q 55, .inl (E.2.1 0, 4, .inl a_sets)), (q 54, .inl (E.2.1 0, 7, .inl n_73)), (q 53, .inl (E.2.1 0, 7, .inl a_given))]) [0, 3, 4, 2, 1] rfl
                have hD9 := hD.sub (ws' := [(h0, .inr (12, mG q i_taped i_size i_sort i_what i_at i_end i_worth i_faultKind i_faultPlace i_got i_worked (nI dl) i_isPlanned (nI n_68) x_66)), (q 51, .inl (E.2.1 0, 512, .inl a_least)), (q 55, .inl (E.2.1 0, 4, .inl a_sets)), (q 54, .inl (E.2.1 0, 7, .inl n_73)), (q 53, .inl (E.2.1 0, 7, .inl a_given))]) [0, 3, 4, 2, 1] (by decide) rfl
                exact W.vret hx hb hr (fun t ht hW => ⟨⟨(nI n_68, x_66, a_sets, n_73, a_given), rfl, (BG_post hn9 (BG_new hdl hp9 (F4_all hk0 hk1 hk2 hk3) (Or.inr ⟨(by rw [← hcn9]; exact (gx_eq (by omega) c_70).symm), (by rw [← hc39.1]; exact (ii_lt _ _).mp c_72)⟩) (by rw [← hcn9]) hc39.1 (fun j hj => (hcp j hj).trans (hGv j (by omega))) hB9)), hI_sets, (fun i hi => rfl), (fun k hk => rfl), by rw [ht]; exact hP9, hD9⟩, hS.F ht⟩) hS.2.2 dX12_give_169
              · have hP9 := hP.sub (ws' := [(h0, .inr (12, mG q i_taped i_size i_sort i_what i_at i_end i_worth i_faultKind i_faultPlace i_got i_worked (nI dl) i_isPlanned i_bestDone i_bestCost)), (q 51, .inl (E.2.1 0, 512, .inl a_least)), (q 55, .inl (E.2.1 0, 4, .inl a_sets)), (q 54, .inl (E.2.1 0, 7, .inl a_bestGiven)), (q 53, .inl (E.2.1 0, 7, .inl a_given))]) [0, 1, 2, 3, 4] rfl
                have hD9 := hD.sub (ws' := [(h0, .inr (12, mG q i_taped i_size i_sort i_what i_at i_end i_worth i_faultKind i_faultPlace i_got i_worked (nI dl) i_isPlanned i_bestDone i_bestCost)), (q 51, .inl (E.2.1 0, 512, .inl a_least)), (q 55, .inl (E.2.1 0, 4, .inl a_sets)), (q 54, .inl (E.2.1 0, 7, .inl a_bestGiven)), (q 53, .inl (E.2.1 0, 7, .inl a_given))]) [0, 1, 2, 3, 4] (by decide) rfl
                exact W.vret hx hb hr (fun t ht hW => ⟨⟨(i_bestDone, i_bestCost, a_sets, a_bestGiven, a_given), rfl, (BG_post hn9 (BG_old hdl hp9 (Or.inr ⟨(by rw [← hcn9]; exact gx_eq (by omega) c_70), (by rw [← hc39.1]; exact gx_le c_72)⟩) hB9)), hI_sets, (fun i hi => rfl), (fun k hk => rfl), by rw [ht]; exact hP9, hD9⟩, hS.F ht⟩) hS.2.2 dX12_give_126
        · have hP9 := hP.sub (ws' := [(h0, .inr (12, mG q i_taped i_size i_sort i_what i_at i_end i_worth i_faultKind i_faultPlace i_got i_worked (nI dl) i_isPlanned i_bestDone i_bestCost)), (q 51, .inl (E.2.1 0, 512, .inl a_least)), (q 55, .inl (E.2.1 0, 4, .inl a_sets)), (q 54, .inl (E.2.1 0, 7, .inl a_bestGiven)), (q 53, .inl (E.2.1 0, 7, .inl a_given))]) [0, 1, 2, 3, 4] rfl
          have hD9 := hD.sub (ws' := [(h0, .inr (12, mG q i_taped i_size i_sort i_what i_at i_end i_worth i_faultKind i_faultPlace i_got i_worked (nI dl) i_isPlanned i_bestDone i_bestCost)), (q 51, .inl (E.2.1 0, 512, .inl a_least)), (q 55, .inl (E.2.1 0, 4, .inl a_sets)), (q 54, .inl (E.2.1 0, 7, .inl a_bestGiven)), (q 53, .inl (E.2.1 0, 7, .inl a_given))]) [0, 1, 2, 3, 4] (by decide) rfl
          exact W.vret hx hb hr (fun t ht hW => ⟨⟨(i_bestDone, i_bestCost, a_sets, a_bestGiven, a_given), rfl, (BG_post hn9 (BG_inf hp9 (c := 3) (by decide) (fun q9 => absurd ((hKm 3 (by decide) w_55 (by omega)).1.mpr (by rw [hw39]; exact q9)) (fun r9 => r9 (by rw [← nI_clamp (n := 128 * 3 + w_55) (by omega)]; exact ex_60.symm.trans c_61))) hB9)), hI_sets, (fun i hi => rfl), (fun k hk => rfl), by rw [ht]; exact hP9, hD9⟩, hS.F ht⟩) hS.2.2 dX12_give_44
      · have hP9 := hP.sub (ws' := [(h0, .inr (12, mG q i_taped i_size i_sort i_what i_at i_end i_worth i_faultKind i_faultPlace i_got i_worked (nI dl) i_isPlanned i_bestDone i_bestCost)), (q 51, .inl (E.2.1 0, 512, .inl a_least)), (q 55, .inl (E.2.1 0, 4, .inl a_sets)), (q 54, .inl (E.2.1 0, 7, .inl a_bestGiven)), (q 53, .inl (E.2.1 0, 7, .inl a_given))]) [0, 1, 2, 3, 4] rfl
        have hD9 := hD.sub (ws' := [(h0, .inr (12, mG q i_taped i_size i_sort i_what i_at i_end i_worth i_faultKind i_faultPlace i_got i_worked (nI dl) i_isPlanned i_bestDone i_bestCost)), (q 51, .inl (E.2.1 0, 512, .inl a_least)), (q 55, .inl (E.2.1 0, 4, .inl a_sets)), (q 54, .inl (E.2.1 0, 7, .inl a_bestGiven)), (q 53, .inl (E.2.1 0, 7, .inl a_given))]) [0, 1, 2, 3, 4] (by decide) rfl
        exact W.vret hx hb hr (fun t ht hW => ⟨⟨(i_bestDone, i_bestCost, a_sets, a_bestGiven, a_given), rfl, (BG_post hn9 (BG_inf hp9 (c := 2) (by decide) (fun q9 => absurd ((hKm 2 (by decide) w_38 (by omega)).1.mpr (by rw [hw29]; exact q9)) (fun r9 => r9 (by rw [← nI_clamp (n := 128 * 2 + w_38) (by omega)]; exact ex_43.symm.trans c_44))) hB9)), hI_sets, (fun i hi => rfl), (fun k hk => rfl), by rw [ht]; exact hP9, hD9⟩, hS.F ht⟩) hS.2.2 dX12_give_44
    · have hP9 := hP.sub (ws' := [(h0, .inr (12, mG q i_taped i_size i_sort i_what i_at i_end i_worth i_faultKind i_faultPlace i_got i_worked (nI dl) i_isPlanned i_bestDone i_bestCost)), (q 51, .inl (E.2.1 0, 512, .inl a_least)), (q 55, .inl (E.2.1 0, 4, .inl a_sets)), (q 54, .inl (E.2.1 0, 7, .inl a_bestGiven)), (q 53, .inl (E.2.1 0, 7, .inl a_given))]) [0, 1, 2, 3, 4] rfl
      have hD9 := hD.sub (ws' := [(h0, .inr (12, mG q i_taped i_size i_sort i_what i_at i_end i_worth i_faultKind i_faultPlace i_got i_worked (nI dl) i_isPlanned i_bestDone i_bestCost)), (q 51, .inl (E.2.1 0, 512, .inl a_least)), (q 55, .inl (E.2.1 0, 4, .inl a_sets)), (q 54, .inl (E.2.1 0, 7, .inl a_bestGiven)), (q 53, .inl (E.2.1 0, 7, .inl a_given))]) [0, 1, 2, 3, 4] (by decide) rfl
      exact W.vret hx hb hr (fun t ht hW => ⟨⟨(i_bestDone, i_bestCost, a_sets, a_bestGiven, a_given), rfl, (BG_post hn9 (BG_inf hp9 (c := 1) (by decide) (fun q9 => absurd ((hKm 1 (by decide) w_21 (by omega)).1.mpr (by rw [hw19]; exact q9)) (fun r9 => r9 (by rw [← nI_clamp (n := 128 * 1 + w_21) (by omega)]; exact ex_26.symm.trans c_27))) hB9)), hI_sets, (fun i hi => rfl), (fun k hk => rfl), by rw [ht]; exact hP9, hD9⟩, hS.F ht⟩) hS.2.2 dX12_give_44
  · have hP9 := hP.sub (ws' := [(h0, .inr (12, mG q i_taped i_size i_sort i_what i_at i_end i_worth i_faultKind i_faultPlace i_got i_worked (nI dl) i_isPlanned i_bestDone i_bestCost)), (q 51, .inl (E.2.1 0, 512, .inl a_least)), (q 55, .inl (E.2.1 0, 4, .inl a_sets)), (q 54, .inl (E.2.1 0, 7, .inl a_bestGiven)), (q 53, .inl (E.2.1 0, 7, .inl a_given))]) [0, 1, 2, 3, 4] rfl
    have hD9 := hD.sub (ws' := [(h0, .inr (12, mG q i_taped i_size i_sort i_what i_at i_end i_worth i_faultKind i_faultPlace i_got i_worked (nI dl) i_isPlanned i_bestDone i_bestCost)), (q 51, .inl (E.2.1 0, 512, .inl a_least)), (q 55, .inl (E.2.1 0, 4, .inl a_sets)), (q 54, .inl (E.2.1 0, 7, .inl a_bestGiven)), (q 53, .inl (E.2.1 0, 7, .inl a_given))]) [0, 1, 2, 3, 4] (by decide) rfl
    exact W.vret hx hb hr (fun t ht hW => ⟨⟨(i_bestDone, i_bestCost, a_sets, a_bestGiven, a_given), rfl, (BG_post hn9 (BG_inf hp9 (c := 0) (by decide) (fun q9 => absurd ((hKm 0 (by decide) w_4 (by omega)).1.mpr (by rw [hw09]; exact q9)) (fun r9 => r9 (by rw [← nI_clamp (n := 128 * 0 + w_4) (by omega)]; exact ex_9.symm.trans c_10))) hB9)), hI_sets, (fun i hi => rfl), (fun k hk => rfl), by rw [ht]; exact hP9, hD9⟩, hS.F ht⟩) hS.2.2 dX12_give_44
set_option maxHeartbeats 4000000 in
set_option maxRecDepth 100000 in
theorem c_X12_give6 (l : Launch) (E : vE) (h0 : Nat) (q : Nat → Nat) (i_taped : Int32) (i_size : Int32) (i_sort : Int32) (i_what : Int32) (i_at : Int32) (i_end : Int32) (i_worth : Int32) (i_faultKind : Int32) (i_faultPlace : Int32) (i_got : Int32) (i_worked : Int32) (i_isPlanned : Int32) (i_bestDone : Int32) (i_bestCost : Int32) (dl : Nat) (FF : Nat → Nat → Prop) (CC : Nat → Nat → Int) (gp : Nat → Nat) (a_least : Nat → Int32) (a_sets : Nat → Int32) (a_bestGiven : Nat → Int32) (a_given : Nat → Int32) (sz : Nat) (hdl : dl ≤ 7) (hd : 6 ≤ dl) (hp : ∀ k : Nat, k < 6 → gp k ≤ 4) (hSt : ∀ i : Nat, i < 4 → a_sets i = nI (setOf gp i 6)) (hGv : ∀ k : Nat, k < 6 → a_given k = gI (gp k)) (hBG : BG FF CC dl (hN gp 6 * 5 ^ (dl - 6)) i_bestDone i_bestCost a_bestGiven) (hKm : ∀ i : Nat, i < 4 → ∀ z : Nat, z < 128 → ((¬ a_least (128 * i + z) = -1) ↔ FF i z) ∧ ((¬ a_least (128 * i + z) = -1) → (a_least (128 * i + z)).toInt = CC i z)) (hCb : ∀ i : Nat, i < 4 → ∀ z : Nat, FF i z → 0 ≤ CC i z ∧ CC i z ≤ 70000) (hI_sets : ∀ k : Nat, k < 4 → inR (a_sets k) 0 127 = true) : Met l yX12_give wsX12_give ({ frames := 1, cells := 0, slots := 0, locals := 25 }) (pcW E [.ref h0, .int 6] sz [(h0, .inr (12, mG q i_taped i_size i_sort i_what i_at i_end i_worth i_faultKind i_faultPlace i_got i_worked (nI dl) i_isPlanned i_bestDone i_bestCost)), (q 51, .inl (E.2.1 0, 512, .inl a_least)), (q 55, .inl (E.2.1 0, 4, .inl a_sets)), (q 54, .inl (E.2.1 0, 7, .inl a_bestGiven)), (q 53, .inl (E.2.1 0, 7, .inl a_given))]) (va_Qv (fun (u : Int32 × Int32 × (Nat → Int32) × (Nat → Int32) × (Nat → Int32)) => match u with | (bd2, bc2, b_sets, b_bestGiven, b_given) => BG FF CC dl ((hN gp 6 + 1) * 5 ^ (dl - 6)) bd2 bc2 b_bestGiven) (fun (u : Int32 × Int32 × (Nat → Int32) × (Nat → Int32) × (Nat → Int32)) (t : State) => match u with | (bd2, bc2, b_sets, b_bestGiven, b_given) => (∀ k : Nat, k < 4 → inR (b_sets k) 0 127 = true) ∧ (∀ i : Nat, i < 4 → b_sets i = a_sets i) ∧ (∀ k : Nat, k < 6 → b_given k = a_given k) ∧ wB E (va_A [(h0, .inr (12, mG q i_taped i_size i_sort i_what i_at i_end i_worth i_faultKind i_faultPlace i_got i_worked (nI dl) i_isPlanned i_bestDone i_bestCost)), (q 51, .inl (E.2.1 0, 512, .inl a_least)), (q 55, .inl (E.2.1 0, 4, .inl a_sets)), (q 54, .inl (E.2.1 0, 7, .inl a_bestGiven)), (q 53, .inl (E.2.1 0, 7, .inl a_given))] sz) [(h0, .inr (12, mG q i_taped i_size i_sort i_what i_at i_end i_worth i_faultKind i_faultPlace i_got i_worked (nI dl) i_isPlanned bd2 bc2)), (q 51, .inl (E.2.1 0, 512, .inl a_least)), (q 55, .inl (E.2.1 0, 4, .inl b_sets)), (q 54, .inl (E.2.1 0, 7, .inl b_bestGiven)), (q 53, .inl (E.2.1 0, 7, .inl b_given))] t) (va_A [(h0, .inr (12, mG q i_taped i_size i_sort i_what i_at i_end i_worth i_faultKind i_faultPlace i_got i_worked (nI dl) i_isPlanned i_bestDone i_bestCost)), (q 51, .inl (E.2.1 0, 512, .inl a_least)), (q 55, .inl (E.2.1 0, 4, .inl a_sets)), (q 54, .inl (E.2.1 0, 7, .inl a_bestGiven)), (q 53, .inl (E.2.1 0, 7, .inl a_given))] sz)) 0 0 (va_A [(h0, .inr (12, mG q i_taped i_size i_sort i_what i_at i_end i_worth i_faultKind i_faultPlace i_got i_worked (nI dl) i_isPlanned i_bestDone i_bestCost)), (q 51, .inl (E.2.1 0, 512, .inl a_least)), (q 55, .inl (E.2.1 0, 4, .inl a_sets)), (q 54, .inl (E.2.1 0, 7, .inl a_bestGiven)), (q 53, .inl (E.2.1 0, 7, .inl a_given))] sz) := by
  refine Met.ofW (cc := cX12_give) (maxL := 6) (ret := none) (by decide) rfl ?_
  intro p e s m args below meth c s₁ B hml hv
  obtain ⟨rfl, hsz, hP, hkn, hD0, hst⟩ := hv
  have hx := B.exec
  have hb := B.bytes
  have hr := B.returns
  have hts := atoms_spec (ws := wsX12_give) B.pre
  have hown : s.vm.findClass RX12 = some m.cls := findClass_of_methodNamed B.named
  have hlocks := B.notSynchronized
  subst hsz
  have hD := hD0.self (sz := s.heap.size)
  have hK := hkn.1
  have hAO := hkn.2.2.1
  generalize hAe : va_A [(h0, .inr (12, mG q i_taped i_size i_sort i_what i_at i_end i_worth i_faultKind i_faultPlace i_got i_worked (nI dl) i_isPlanned i_bestDone i_bestCost)), (q 51, .inl (E.2.1 0, 512, .inl a_least)), (q 55, .inl (E.2.1 0, 4, .inl a_sets)), (q 54, .inl (E.2.1 0, 7, .inl a_bestGiven)), (q 53, .inl (E.2.1 0, 7, .inl a_given))] s.heap.size = A at hD hst ⊢
  have hA : ∀ q : Nat, s.heap.size ≤ q → A q := fun q h => by rw [← hAe]; exact Or.inr h
  have hS : va_S A s.heap s.heap [] := va_S.rf
  have hP : va_P E.1 vwCl [(h0, .inr (12, mG q i_taped i_size i_sort i_what i_at i_end i_worth i_faultKind i_faultPlace i_got i_worked (nI dl) i_isPlanned i_bestDone i_bestCost)), (q 51, .inl (E.2.1 0, 512, .inl a_least)), (q 55, .inl (E.2.1 0, 4, .inl a_sets)), (q 54, .inl (E.2.1 0, 7, .inl a_bestGiven)), (q 53, .inl (E.2.1 0, 7, .inl a_given))] s.heap := hP
  have hl := lv_entry ([.ref h0, .int 6]) (n := 6) (Nat.le_of_ble_eq_true rfl)
  rw [lg_entry_eq]
  generalize (lg_sl ([.ref h0, .int 6]) ++ List.replicate (6 - (lg_sl ([.ref h0, .int 6])).length) Slot.unset).toArray = ls at hl ⊢
  have hl : lv_has ls 6 [(0, .ref h0), (1, .int 6)] := hl
  have fl130 := hts (.fieldLink RX12 130 "BoatsHomeModel" "least" "[I") (by first | exact List.mem_of_getElem? (i := 2) rfl | decide +kernel)
  have fl136 := hts (.fieldLink RX12 136 "BoatsHomeModel" "given" "[I") (by first | exact List.mem_of_getElem? (i := 7) rfl | decide +kernel)
  have fl139 := hts (.fieldLink RX12 139 "BoatsHomeModel" "bestGiven" "[I") (by first | exact List.mem_of_getElem? (i := 6) rfl | decide +kernel)
  have fl142 := hts (.fieldLink RX12 142 "BoatsHomeModel" "sets" "[I") (by first | exact List.mem_of_getElem? (i := 3) rfl | decide +kernel)
  have fl289 := hts (.fieldLink RX12 289 "BoatsHomeModel" "deliveries" "I") (by first | exact List.mem_of_getElem? (i := 1) rfl | decide +kernel)
  have fl300 := hts (.fieldLink RX12 300 "BoatsHomeModel" "bestDone" "I") (by first | exact List.mem_of_getElem? (i := 4) rfl | decide +kernel)
  have fl303 := hts (.fieldLink RX12 303 "BoatsHomeModel" "bestCost" "I") (by first | exact List.mem_of_getElem? (i := 5) rfl | decide +kernel)
  have inX12 : ∀ w ∈ u_ws RX12 TX12 59, w ∈ wsX12_give := by first | exact fun w h9 => (List.mem_cons_of_mem _ (List.mem_append_right _ h9)) | decide +kernel
  refine lv_iload_n hx hb dX12_give_0 rfl (lv_at hl 1 rfl) ?_
  refine lv_aload_n hx hb dX12_give_1 rfl (lv_at hl 0 rfl) ?_
  refine va_get (D := E.1) (ci := 12) (v := .int (nI dl)) (C := RX12) (T := TX12) (N := 59) hx hb hts inX12 hown hK hP 0 rfl rfl 41 (by decide) fl289 (fun _ h9 => h9) rfl dX12_give_2 ?_
  refine lv_icmp_ne (tgt := 170) hx hb dX12_give_5 (by decide) (fun c_1 => ?_) (fun c_1 => ?_)
  · have hd2 : 6 + 1 ≤ dl := by
      rcases Nat.lt_or_ge 6 dl with q | q
      · exact q
      · exact absurd (by rw [show dl = 6 by omega]; rfl) c_1
    refine lv_iconst (v := 0) hx hb dX12_give_170 (by decide) ?_
    refine lv_istore_n (lv' := [(2, .int 0), (0, .ref h0), (1, .int 6)]) hx hb dX12_give_171 rfl hl (by decide) rfl (fun ls hl => ?_)
    refine lv_iload_n hx hb dX12_give_172 rfl (lv_at hl 0 rfl) ?_
    refine lv_iconst (v := 4) hx hb dX12_give_173 (by decide) ?_
    refine lv_icmp_ge (tgt := 223) hx hb dX12_give_174 (by decide) (fun c9 => absurd c9 (by decide)) (fun _ => ?_)
    refine lv_aload_n hx hb dX12_give_177 rfl (lv_at hl 1 rfl) ?_
    refine va_get (D := E.1) (ci := 12) (v := .ref (q 53)) (C := RX12) (T := TX12) (N := 59) hx hb hts inX12 hown hK hP 0 rfl rfl 53 (by decide) fl136 (fun _ h9 => h9) rfl dX12_give_178 ?_
    refine lv_iload_n hx hb dX12_give_181 rfl (lv_at hl 2 rfl) ?_
    refine lv_iload_n hx hb dX12_give_182 rfl (lv_at hl 0 rfl) ?_
    refine va_iast hx hb hK hP hD hS 4 0 rfl rfl (show vp_in 6 7 from by unfold vp_in; decide) dX12_give_183 (fun H locs hP hD hS => ?_)
    have hP : va_P E.1 vwCl [(h0, .inr (12, mG q i_taped i_size i_sort i_what i_at i_end i_worth i_faultKind i_faultPlace i_got i_worked (nI dl) i_isPlanned i_bestDone i_bestCost)), (q 51, .inl (E.2.1 0, 512, .inl a_least)), (q 55, .inl (E.2.1 0, 4, .inl a_sets)), (q 54, .inl (E.2.1 0, 7, .inl a_bestGiven)), (q 53, .inl (E.2.1 0, 7, .inl (upd a_given (Int32.toNatClampNeg 6) 0)))] H := hP
    have hD : va_D A [(h0, .inr (12, mG q i_taped i_size i_sort i_what i_at i_end i_worth i_faultKind i_faultPlace i_got i_worked (nI dl) i_isPlanned i_bestDone i_bestCost)), (q 51, .inl (E.2.1 0, 512, .inl a_least)), (q 55, .inl (E.2.1 0, 4, .inl a_sets)), (q 54, .inl (E.2.1 0, 7, .inl a_bestGiven)), (q 53, .inl (E.2.1 0, 7, .inl (upd a_given (Int32.toNatClampNeg 6) 0)))] := hD
    obtain ⟨f_2, ef_2⟩ : ∃ g : Nat → Int32, g = upd a_given (Int32.toNatClampNeg 6) 0 := ⟨_, rfl⟩
    rw [← ef_2] at hP hD
    refine lv_aload_n hx hb dX12_give_184 rfl (lv_at hl 1 rfl) ?_
    refine va_get (D := E.1) (ci := 12) (v := .ref (q 55)) (C := RX12) (T := TX12) (N := 59) hx hb hts inX12 hown hK hP 0 rfl rfl 55 (by decide) fl142 (fun _ h9 => h9) rfl dX12_give_185 ?_
    refine lv_iload_n hx hb dX12_give_188 rfl (lv_at hl 0 rfl) ?_
    refine lv_dup2_11 hx hb dX12_give_189 rfl rfl ?_
    refine va_iald hx hb hK hP 2 0 rfl rfl (show vp_in 0 4 from by unfold vp_in; decide) dX12_give_190 ?_
    refine lv_topi (fun x_3 ex_3 => ?_)
    have hv_4 : inR x_3 0 127 = true := by rw [ex_3]; exact hI_sets _ (vin_cl (show vp_in 0 4 from by unfold vp_in; decide))
    obtain ⟨w_5, hw_6, ew_7⟩ := inR_nI (n := 127) (by decide) hv_4
    subst ew_7
    refine lv_iconst (v := 1) hx hb dX12_give_191 (by decide) ?_
    refine lv_iload_n hx hb dX12_give_192 rfl (lv_at hl 2 rfl) ?_
    refine lv_ishl hx hb dX12_give_193 ?_
    refine lv_topi (fun x_8 ex_8 => ?_)
    obtain rfl : x_8 = 64 := ex_8.trans (by decide +kernel)
    refine lv_ior hx hb dX12_give_194 ?_
    refine lv_topi (fun x_9 ex_9 => ?_)
    refine va_iast hx hb hK hP hD hS 2 0 rfl rfl (show vp_in 0 4 from by unfold vp_in; decide) dX12_give_195 (fun H locs hP hD hS => ?_)
    have hP : va_P E.1 vwCl [(h0, .inr (12, mG q i_taped i_size i_sort i_what i_at i_end i_worth i_faultKind i_faultPlace i_got i_worked (nI dl) i_isPlanned i_bestDone i_bestCost)), (q 51, .inl (E.2.1 0, 512, .inl a_least)), (q 55, .inl (E.2.1 0, 4, .inl (upd a_sets (Int32.toNatClampNeg 0) x_9))), (q 54, .inl (E.2.1 0, 7, .inl a_bestGiven)), (q 53, .inl (E.2.1 0, 7, .inl f_2))] H := hP
    have hD : va_D A [(h0, .inr (12, mG q i_taped i_size i_sort i_what i_at i_end i_worth i_faultKind i_faultPlace i_got i_worked (nI dl) i_isPlanned i_bestDone i_bestCost)), (q 51, .inl (E.2.1 0, 512, .inl a_least)), (q 55, .inl (E.2.1 0, 4, .inl (upd a_sets (Int32.toNatClampNeg 0) x_9))), (q 54, .inl (E.2.1 0, 7, .inl a_bestGiven)), (q 53, .inl (E.2.1 0, 7, .inl f_2))] := hD
    obtain ⟨f_10, ef_10⟩ : ∃ g : Nat → Int32, g = upd a_sets (Int32.toNatClampNeg 0) x_9 := ⟨_, rfl⟩
    rw [← ef_10] at hP hD
    have hI_11 : ∀ k : Nat, k < 4 → inR (f_10 k) 0 127 = true := by rw [ef_10]; exact all_upd (P := fun z => inR z 0 127 = true) hI_sets (by rw [ex_9]; exact or_lt7 _ (by omega) 6 (by decide))
    refine lv_aload_n hx hb dX12_give_196 rfl (lv_at hl 1 rfl) ?_
    refine lv_iload_n hx hb dX12_give_197 rfl (lv_at hl 2 rfl) ?_
    refine lv_iconst (v := 1) hx hb dX12_give_198 (by decide) ?_
    refine lv_iadd hx hb dX12_give_199 ?_
    refine lv_topi (fun x_12 ex_12 => ?_)
    obtain rfl : x_12 = 7 := ex_12.trans (by decide +kernel)
    have hp0 : ∀ i : Nat, i < 4 → f_10 i = put a_sets 0 6 i := put_of (prev := a_sets) (x := x_9) (y := nI w_5) (z := 64) (fun i hi => rfl) (by decide) (ef_10.trans (by rw [show Int32.toNatClampNeg 0 = 0 from by decide])) ex_9 (ex_3.trans (by rw [show Int32.toNatClampNeg 0 = 0 from by decide])) (by decide)
    have hv0 : ∀ k : Nat, k < 6 + 1 → f_2 k = gI (pg gp 6 0 k) := gv_put (cur := a_given) (fun k hk => rfl) hGv (ef_2.trans (by rw [show Int32.toNatClampNeg 6 = 6 from by decide])) (by decide)
    have hPc := hP.sub (ws' := [(h0, .inr (12, mG q i_taped i_size i_sort i_what i_at i_end i_worth i_faultKind i_faultPlace i_got i_worked (nI dl) i_isPlanned i_bestDone i_bestCost)), (q 51, .inl (E.2.1 0, 512, .inl a_least)), (q 55, .inl (E.2.1 0, 4, .inl f_10)), (q 54, .inl (E.2.1 0, 7, .inl a_bestGiven)), (q 53, .inl (E.2.1 0, 7, .inl f_2))]) [0, 1, 2, 3, 4] rfl
    have hDc := hD.sub (ws' := [(h0, .inr (12, mG q i_taped i_size i_sort i_what i_at i_end i_worth i_faultKind i_faultPlace i_got i_worked (nI dl) i_isPlanned i_bestDone i_bestCost)), (q 51, .inl (E.2.1 0, 512, .inl a_least)), (q 55, .inl (E.2.1 0, 4, .inl f_10)), (q 54, .inl (E.2.1 0, 7, .inl a_bestGiven)), (q 53, .inl (E.2.1 0, 7, .inl f_2))]) [0, 1, 2, 3, 4] (by decide) rfl
    have hFc := va_free (wc := [(h0, .inr (12, mG q i_taped i_size i_sort i_what i_at i_end i_worth i_faultKind i_faultPlace i_got i_worked (nI dl) i_isPlanned i_bestDone i_bestCost)), (q 51, .inl (E.2.1 0, 512, .inl a_least)), (q 55, .inl (E.2.1 0, 4, .inl f_10)), (q 54, .inl (E.2.1 0, 7, .inl a_bestGiven)), (q 53, .inl (E.2.1 0, 7, .inl f_2))]) hD hS hA [0, 1, 2, 3, 4] rfl
    refine va_callv (va_runV (As := [.int 7]) (rest := []) ⟨hx, hb, hml, hown, hts⟩ (c_X12_give7 l E h0 q i_taped i_size i_sort i_what i_at i_end i_worth i_faultKind i_faultPlace i_got i_worked i_isPlanned i_bestDone i_bestCost dl FF CC (pg gp 6 0) a_least f_10 a_bestGiven f_2 H.size hdl hd2 (pg_le hp (by decide)) (st_put hSt hp0) hv0 (BG_M (M_0 hd2) hBG) hKm hCb hI_11) (cwV 1 hts gX12_give_X12_give rfl rfl rfl hdV_X12_give ⟨Nat.le_of_ble_eq_true rfl, Nat.le_of_ble_eq_true rfl⟩) ⟨pcW_blind, va_recv hK hPc (ci := 12) (q0 := 0) rfl rfl, (pcW_pre hPc hkn hDc hst hS hFc)⟩ rfl rfl hl.1 rfl (lv_room (Nat.le_of_ble_eq_true rfl)) dX12_give_200 ⟨Nat.le_of_ble_eq_true rfl, Nat.le_of_ble_eq_true rfl⟩) hS (fun q _ h => hFc q h) hFc (fun u t H1 locs ht hvm hw_14 hB hz1 hk1 hS => ?_)
    obtain ⟨u_15, u_16, u_17, u_18, u_19⟩ := u
    obtain ⟨hf_20, hf_21, hf_22, hP1, hD1⟩ := hB
    rw [ht] at hP1
    try dsimp only at hw_14
    obtain ⟨hP, hD⟩ := va_join (wr := []) (w1 := [(h0, .inr (12, mG q i_taped i_size i_sort i_what i_at i_end i_worth i_faultKind i_faultPlace i_got i_worked (nI dl) i_isPlanned u_15 u_16)), (q 51, .inl (E.2.1 0, 512, .inl a_least)), (q 55, .inl (E.2.1 0, 4, .inl u_17)), (q 54, .inl (E.2.1 0, 7, .inl u_18)), (q 53, .inl (E.2.1 0, 7, .inl u_19))]) hP hD [0, 1, 2, 3, 4] [] rfl rfl (by decide) (by decide) hk1 hFc hP1 hD1
    generalize H1 = H at hP hS ⊢
    have hP : va_P E.1 vwCl [(h0, .inr (12, mG q i_taped i_size i_sort i_what i_at i_end i_worth i_faultKind i_faultPlace i_got i_worked (nI dl) i_isPlanned u_15 u_16)), (q 51, .inl (E.2.1 0, 512, .inl a_least)), (q 55, .inl (E.2.1 0, 4, .inl u_17)), (q 54, .inl (E.2.1 0, 7, .inl u_18)), (q 53, .inl (E.2.1 0, 7, .inl u_19))] H := hP
    have hD : va_D A [(h0, .inr (12, mG q i_taped i_size i_sort i_what i_at i_end i_worth i_faultKind i_faultPlace i_got i_worked (nI dl) i_isPlanned u_15 u_16)), (q 51, .inl (E.2.1 0, 512, .inl a_least)), (q 55, .inl (E.2.1 0, 4, .inl u_17)), (q 54, .inl (E.2.1 0, 7, .inl u_18)), (q 53, .inl (E.2.1 0, 7, .inl u_19))] := hD
    refine lv_aload_n hx hb dX12_give_203 rfl (lv_at hl 1 rfl) ?_
    refine va_get (D := E.1) (ci := 12) (v := .ref (q 55)) (C := RX12) (T := TX12) (N := 59) hx hb hts inX12 hown hK hP 0 rfl rfl 55 (by decide) fl142 (fun _ h9 => h9) rfl dX12_give_204 ?_
    refine lv_iload_n hx hb dX12_give_207 rfl (lv_at hl 0 rfl) ?_
    refine lv_dup2_11 hx hb dX12_give_208 rfl rfl ?_
    refine va_iald hx hb hK hP 2 0 rfl rfl (show vp_in 0 4 from by unfold vp_in; decide) dX12_give_209 ?_
    refine lv_topi (fun x_23 ex_23 => ?_)
    have hv_24 : inR x_23 0 127 = true := by rw [ex_23]; exact hf_20 _ (vin_cl (show vp_in 0 4 from by unfold vp_in; decide))
    obtain ⟨w_25, hw_26, ew_27⟩ := inR_nI (n := 127) (by decide) hv_24
    subst ew_27
    refine lv_iconst (v := 1) hx hb dX12_give_210 (by decide) ?_
    refine lv_iload_n hx hb dX12_give_211 rfl (lv_at hl 2 rfl) ?_
    refine lv_ishl hx hb dX12_give_212 ?_
    refine lv_topi (fun x_28 ex_28 => ?_)
    obtain rfl : x_28 = 64 := ex_28.trans (by decide +kernel)
    refine lv_iconst (v := (-1)) hx hb dX12_give_213 (by decide) ?_
    refine lv_ixor hx hb dX12_give_214 ?_
    refine lv_topi (fun x_29 ex_29 => ?_)
    obtain rfl : x_29 = (-65) := ex_29.trans (by decide +kernel)
    refine lv_iand hx hb dX12_give_215 ?_
    refine lv_topi (fun x_30 ex_30 => ?_)
    refine va_iast hx hb hK hP hD hS 2 0 rfl rfl (show vp_in 0 4 from by unfold vp_in; decide) dX12_give_216 (fun H locs hP hD hS => ?_)
    have hP : va_P E.1 vwCl [(h0, .inr (12, mG q i_taped i_size i_sort i_what i_at i_end i_worth i_faultKind i_faultPlace i_got i_worked (nI dl) i_isPlanned u_15 u_16)), (q 51, .inl (E.2.1 0, 512, .inl a_least)), (q 55, .inl (E.2.1 0, 4, .inl (upd u_17 (Int32.toNatClampNeg 0) x_30))), (q 54, .inl (E.2.1 0, 7, .inl u_18)), (q 53, .inl (E.2.1 0, 7, .inl u_19))] H := hP
    have hD : va_D A [(h0, .inr (12, mG q i_taped i_size i_sort i_what i_at i_end i_worth i_faultKind i_faultPlace i_got i_worked (nI dl) i_isPlanned u_15 u_16)), (q 51, .inl (E.2.1 0, 512, .inl a_least)), (q 55, .inl (E.2.1 0, 4, .inl (upd u_17 (Int32.toNatClampNeg 0) x_30))), (q 54, .inl (E.2.1 0, 7, .inl u_18)), (q 53, .inl (E.2.1 0, 7, .inl u_19))] := hD
    obtain ⟨f_31, ef_31⟩ : ∃ g : Nat → Int32, g = upd u_17 (Int32.toNatClampNeg 0) x_30 := ⟨_, rfl⟩
    rw [← ef_31] at hP hD
    have hI_32 : ∀ k : Nat, k < 4 → inR (f_31 k) 0 127 = true := by rw [ef_31]; exact all_upd (P := fun z => inR z 0 127 = true) hf_20 (by rw [ex_30]; exact and_lt7 _ (by omega) 6 (by decide))
    have hb0 : ∀ i : Nat, i < 4 → f_31 i = a_sets i := gback_of (u := u_17) (x := x_30) (y := nI w_25) (z := (-65)) (by decide) (by decide) ⟨gp, hSt⟩ hp0 hf_21 (ef_31.trans (by rw [show Int32.toNatClampNeg 0 = 0 from by decide])) ex_30 (ex_23.trans (by rw [show Int32.toNatClampNeg 0 = 0 from by decide])) (by decide)
    refine lv_iinc (v := 1) (lv' := [(2, .int 1), (0, .ref h0), (1, .int 6)]) hx hb dX12_give_217 hl (k := 0) rfl (by decide) (by decide) rfl (fun ls hl => ?_)
    refine lv_goto (tgt := 172) hx hb dX12_give_220 (by decide) ?_
    refine lv_iload_n hx hb dX12_give_172 rfl (lv_at hl 0 rfl) ?_
    refine lv_iconst (v := 4) hx hb dX12_give_173 (by decide) ?_
    refine lv_icmp_ge (tgt := 223) hx hb dX12_give_174 (by decide) (fun c9 => absurd c9 (by decide)) (fun _ => ?_)
    refine lv_aload_n hx hb dX12_give_177 rfl (lv_at hl 1 rfl) ?_
    refine va_get (D := E.1) (ci := 12) (v := .ref (q 53)) (C := RX12) (T := TX12) (N := 59) hx hb hts inX12 hown hK hP 0 rfl rfl 53 (by decide) fl136 (fun _ h9 => h9) rfl dX12_give_178 ?_
    refine lv_iload_n hx hb dX12_give_181 rfl (lv_at hl 2 rfl) ?_
    refine lv_iload_n hx hb dX12_give_182 rfl (lv_at hl 0 rfl) ?_
    refine va_iast hx hb hK hP hD hS 4 0 rfl rfl (show vp_in 6 7 from by unfold vp_in; decide) dX12_give_183 (fun H locs hP hD hS => ?_)
    have hP : va_P E.1 vwCl [(h0, .inr (12, mG q i_taped i_size i_sort i_what i_at i_end i_worth i_faultKind i_faultPlace i_got i_worked (nI dl) i_isPlanned u_15 u_16)), (q 51, .inl (E.2.1 0, 512, .inl a_least)), (q 55, .inl (E.2.1 0, 4, .inl f_31)), (q 54, .inl (E.2.1 0, 7, .inl u_18)), (q 53, .inl (E.2.1 0, 7, .inl (upd u_19 (Int32.toNatClampNeg 6) 1)))] H := hP
    have hD : va_D A [(h0, .inr (12, mG q i_taped i_size i_sort i_what i_at i_end i_worth i_faultKind i_faultPlace i_got i_worked (nI dl) i_isPlanned u_15 u_16)), (q 51, .inl (E.2.1 0, 512, .inl a_least)), (q 55, .inl (E.2.1 0, 4, .inl f_31)), (q 54, .inl (E.2.1 0, 7, .inl u_18)), (q 53, .inl (E.2.1 0, 7, .inl (upd u_19 (Int32.toNatClampNeg 6) 1)))] := hD
    obtain ⟨f_33, ef_33⟩ : ∃ g : Nat → Int32, g = upd u_19 (Int32.toNatClampNeg 6) 1 := ⟨_, rfl⟩
    rw [← ef_33] at hP hD
    refine lv_aload_n hx hb dX12_give_184 rfl (lv_at hl 1 rfl) ?_
    refine va_get (D := E.1) (ci := 12) (v := .ref (q 55)) (C := RX12) (T := TX12) (N := 59) hx hb hts inX12 hown hK hP 0 rfl rfl 55 (by decide) fl142 (fun _ h9 => h9) rfl dX12_give_185 ?_
    refine lv_iload_n hx hb dX12_give_188 rfl (lv_at hl 0 rfl) ?_
    refine lv_dup2_11 hx hb dX12_give_189 rfl rfl ?_
    refine va_iald hx hb hK hP 2 0 rfl rfl (show vp_in 1 4 from by unfold vp_in; decide) dX12_give_190 ?_
    refine lv_topi (fun x_34 ex_34 => ?_)
    have hv_35 : inR x_34 0 127 = true := by rw [ex_34]; exact hI_32 _ (vin_cl (show vp_in 1 4 from by unfold vp_in; decide))
    obtain ⟨w_36, hw_37, ew_38⟩ := inR_nI (n := 127) (by decide) hv_35
    subst ew_38
    refine lv_iconst (v := 1) hx hb dX12_give_191 (by decide) ?_
    refine lv_iload_n hx hb dX12_give_192 rfl (lv_at hl 2 rfl) ?_
    refine lv_ishl hx hb dX12_give_193 ?_
    refine lv_topi (fun x_39 ex_39 => ?_)
    obtain rfl : x_39 = 64 := ex_39.trans (by decide +kernel)
    refine lv_ior hx hb dX12_give_194 ?_
    refine lv_topi (fun x_40 ex_40 => ?_)
    refine va_iast hx hb hK hP hD hS 2 0 rfl rfl (show vp_in 1 4 from by unfold vp_in; decide) dX12_give_195 (fun H locs hP hD hS => ?_)
    have hP : va_P E.1 vwCl [(h0, .inr (12, mG q i_taped i_size i_sort i_what i_at i_end i_worth i_faultKind i_faultPlace i_got i_worked (nI dl) i_isPlanned u_15 u_16)), (q 51, .inl (E.2.1 0, 512, .inl a_least)), (q 55, .inl (E.2.1 0, 4, .inl (upd f_31 (Int32.toNatClampNeg 1) x_40))), (q 54, .inl (E.2.1 0, 7, .inl u_18)), (q 53, .inl (E.2.1 0, 7, .inl f_33))] H := hP
    have hD : va_D A [(h0, .inr (12, mG q i_taped i_size i_sort i_what i_at i_end i_worth i_faultKind i_faultPlace i_got i_worked (nI dl) i_isPlanned u_15 u_16)), (q 51, .inl (E.2.1 0, 512, .inl a_least)), (q 55, .inl (E.2.1 0, 4, .inl (upd f_31 (Int32.toNatClampNeg 1) x_40))), (q 54, .inl (E.2.1 0, 7, .inl u_18)), (q 53, .inl (E.2.1 0, 7, .inl f_33))] := hD
    obtain ⟨f_41, ef_41⟩ : ∃ g : Nat → Int32, g = upd f_31 (Int32.toNatClampNeg 1) x_40 := ⟨_, rfl⟩
    rw [← ef_41] at hP hD
    have hI_42 : ∀ k : Nat, k < 4 → inR (f_41 k) 0 127 = true := by rw [ef_41]; exact all_upd (P := fun z => inR z 0 127 = true) hI_32 (by rw [ex_40]; exact or_lt7 _ (by omega) 6 (by decide))
    refine lv_aload_n hx hb dX12_give_196 rfl (lv_at hl 1 rfl) ?_
    refine lv_iload_n hx hb dX12_give_197 rfl (lv_at hl 2 rfl) ?_
    refine lv_iconst (v := 1) hx hb dX12_give_198 (by decide) ?_
    refine lv_iadd hx hb dX12_give_199 ?_
    refine lv_topi (fun x_43 ex_43 => ?_)
    obtain rfl : x_43 = 7 := ex_43.trans (by decide +kernel)
    have hp1 : ∀ i : Nat, i < 4 → f_41 i = put a_sets 1 6 i := put_of (prev := f_31) (x := x_40) (y := nI w_36) (z := 64) hb0 (by decide) (ef_41.trans (by rw [show Int32.toNatClampNeg 1 = 1 from by decide])) ex_40 (ex_34.trans (by rw [show Int32.toNatClampNeg 1 = 1 from by decide])) (by decide)
    have hv1 : ∀ k : Nat, k < 6 + 1 → f_33 k = gI (pg gp 6 1 k) := gv_put (cur := u_19) (gv_cur (fun k hk => rfl) (ef_2.trans (by rw [show Int32.toNatClampNeg 6 = 6 from by decide])) hf_22) hGv (ef_33.trans (by rw [show Int32.toNatClampNeg 6 = 6 from by decide])) (by decide)
    have hPc := hP.sub (ws' := [(h0, .inr (12, mG q i_taped i_size i_sort i_what i_at i_end i_worth i_faultKind i_faultPlace i_got i_worked (nI dl) i_isPlanned u_15 u_16)), (q 51, .inl (E.2.1 0, 512, .inl a_least)), (q 55, .inl (E.2.1 0, 4, .inl f_41)), (q 54, .inl (E.2.1 0, 7, .inl u_18)), (q 53, .inl (E.2.1 0, 7, .inl f_33))]) [0, 1, 2, 3, 4] rfl
    have hDc := hD.sub (ws' := [(h0, .inr (12, mG q i_taped i_size i_sort i_what i_at i_end i_worth i_faultKind i_faultPlace i_got i_worked (nI dl) i_isPlanned u_15 u_16)), (q 51, .inl (E.2.1 0, 512, .inl a_least)), (q 55, .inl (E.2.1 0, 4, .inl f_41)), (q 54, .inl (E.2.1 0, 7, .inl u_18)), (q 53, .inl (E.2.1 0, 7, .inl f_33))]) [0, 1, 2, 3, 4] (by decide) rfl
    have hFc := va_free (wc := [(h0, .inr (12, mG q i_taped i_size i_sort i_what i_at i_end i_worth i_faultKind i_faultPlace i_got i_worked (nI dl) i_isPlanned u_15 u_16)), (q 51, .inl (E.2.1 0, 512, .inl a_least)), (q 55, .inl (E.2.1 0, 4, .inl f_41)), (q 54, .inl (E.2.1 0, 7, .inl u_18)), (q 53, .inl (E.2.1 0, 7, .inl f_33))]) hD hS hA [0, 1, 2, 3, 4] rfl
    refine va_callv (va_runV (As := [.int 7]) (rest := []) ⟨hx, hb, hml, hown, hts⟩ (c_X12_give7 l E h0 q i_taped i_size i_sort i_what i_at i_end i_worth i_faultKind i_faultPlace i_got i_worked i_isPlanned u_15 u_16 dl FF CC (pg gp 6 1) a_least f_41 u_18 f_33 H.size hdl hd2 (pg_le hp (by decide)) (st_put hSt hp1) hv1 (BG_M M_s hw_14) hKm hCb hI_42) (cwV 1 hts gX12_give_X12_give rfl rfl rfl hdV_X12_give ⟨Nat.le_of_ble_eq_true rfl, Nat.le_of_ble_eq_true rfl⟩) ⟨pcW_blind, va_recv hK hPc (ci := 12) (q0 := 0) rfl rfl, (pcW_pre hPc hkn hDc hst hS hFc)⟩ rfl rfl hl.1 rfl (lv_room (Nat.le_of_ble_eq_true rfl)) dX12_give_200 ⟨Nat.le_of_ble_eq_true rfl, Nat.le_of_ble_eq_true rfl⟩) hS (fun q _ h => hFc q h) hFc (fun u t H1 locs ht hvm hw_45 hB hz1 hk1 hS => ?_)
    obtain ⟨u_46, u_47, u_48, u_49, u_50⟩ := u
    obtain ⟨hf_51, hf_52, hf_53, hP1, hD1⟩ := hB
    rw [ht] at hP1
    try dsimp only at hw_45
    obtain ⟨hP, hD⟩ := va_join (wr := []) (w1 := [(h0, .inr (12, mG q i_taped i_size i_sort i_what i_at i_end i_worth i_faultKind i_faultPlace i_got i_worked (nI dl) i_isPlanned u_46 u_47)), (q 51, .inl (E.2.1 0, 512, .inl a_least)), (q 55, .inl (E.2.1 0, 4, .inl u_48)), (q 54, .inl (E.2.1 0, 7, .inl u_49)), (q 53, .inl (E.2.1 0, 7, .inl u_50))]) hP hD [0, 1, 2, 3, 4] [] rfl rfl (by decide) (by decide) hk1 hFc hP1 hD1
    generalize H1 = H at hP hS ⊢
    have hP : va_P E.1 vwCl [(h0, .inr (12, mG q i_taped i_size i_sort i_what i_at i_end i_worth i_faultKind i_faultPlace i_got i_worked (nI dl) i_isPlanned u_46 u_47)), (q 51, .inl (E.2.1 0, 512, .inl a_least)), (q 55, .inl (E.2.1 0, 4, .inl u_48)), (q 54, .inl (E.2.1 0, 7, .inl u_49)), (q 53, .inl (E.2.1 0, 7, .inl u_50))] H := hP
    have hD : va_D A [(h0, .inr (12, mG q i_taped i_size i_sort i_what i_at i_end i_worth i_faultKind i_faultPlace i_got i_worked (nI dl) i_isPlanned u_46 u_47)), (q 51, .inl (E.2.1 0, 512, .inl a_least)), (q 55, .inl (E.2.1 0, 4, .inl u_48)), (q 54, .inl (E.2.1 0, 7, .inl u_49)), (q 53, .inl (E.2.1 0, 7, .inl u_50))] := hD
    refine lv_aload_n hx hb dX12_give_203 rfl (lv_at hl 1 rfl) ?_
    refine va_get (D := E.1) (ci := 12) (v := .ref (q 55)) (C := RX12) (T := TX12) (N := 59) hx hb hts inX12 hown hK hP 0 rfl rfl 55 (by decide) fl142 (fun _ h9 => h9) rfl dX12_give_204 ?_
    refine lv_iload_n hx hb dX12_give_207 rfl (lv_at hl 0 rfl) ?_
    refine lv_dup2_11 hx hb dX12_give_208 rfl rfl ?_
    refine va_iald hx hb hK hP 2 0 rfl rfl (show vp_in 1 4 from by unfold vp_in; decide) dX12_give_209 ?_
    refine lv_topi (fun x_54 ex_54 => ?_)
    have hv_55 : inR x_54 0 127 = true := by rw [ex_54]; exact hf_51 _ (vin_cl (show vp_in 1 4 from by unfold vp_in; decide))
    obtain ⟨w_56, hw_57, ew_58⟩ := inR_nI (n := 127) (by decide) hv_55
    subst ew_58
    refine lv_iconst (v := 1) hx hb dX12_give_210 (by decide) ?_
    refine lv_iload_n hx hb dX12_give_211 rfl (lv_at hl 2 rfl) ?_
    refine lv_ishl hx hb dX12_give_212 ?_
    refine lv_topi (fun x_59 ex_59 => ?_)
    obtain rfl : x_59 = 64 := ex_59.trans (by decide +kernel)
    refine lv_iconst (v := (-1)) hx hb dX12_give_213 (by decide) ?_
    refine lv_ixor hx hb dX12_give_214 ?_
    refine lv_topi (fun x_60 ex_60 => ?_)
    obtain rfl : x_60 = (-65) := ex_60.trans (by decide +kernel)
    refine lv_iand hx hb dX12_give_215 ?_
    refine lv_topi (fun x_61 ex_61 => ?_)
    refine va_iast hx hb hK hP hD hS 2 0 rfl rfl (show vp_in 1 4 from by unfold vp_in; decide) dX12_give_216 (fun H locs hP hD hS => ?_)
    have hP : va_P E.1 vwCl [(h0, .inr (12, mG q i_taped i_size i_sort i_what i_at i_end i_worth i_faultKind i_faultPlace i_got i_worked (nI dl) i_isPlanned u_46 u_47)), (q 51, .inl (E.2.1 0, 512, .inl a_least)), (q 55, .inl (E.2.1 0, 4, .inl (upd u_48 (Int32.toNatClampNeg 1) x_61))), (q 54, .inl (E.2.1 0, 7, .inl u_49)), (q 53, .inl (E.2.1 0, 7, .inl u_50))] H := hP
    have hD : va_D A [(h0, .inr (12, mG q i_taped i_size i_sort i_what i_at i_end i_worth i_faultKind i_faultPlace i_got i_worked (nI dl) i_isPlanned u_46 u_47)), (q 51, .inl (E.2.1 0, 512, .inl a_least)), (q 55, .inl (E.2.1 0, 4, .inl (upd u_48 (Int32.toNatClampNeg 1) x_61))), (q 54, .inl (E.2.1 0, 7, .inl u_49)), (q 53, .inl (E.2.1 0, 7, .inl u_50))] := hD
    obtain ⟨f_62, ef_62⟩ : ∃ g : Nat → Int32, g = upd u_48 (Int32.toNatClampNeg 1) x_61 := ⟨_, rfl⟩
    rw [← ef_62] at hP hD
    have hI_63 : ∀ k : Nat, k < 4 → inR (f_62 k) 0 127 = true := by rw [ef_62]; exact all_upd (P := fun z => inR z 0 127 = true) hf_51 (by rw [ex_61]; exact and_lt7 _ (by omega) 6 (by decide))
    have hb1 : ∀ i : Nat, i < 4 → f_62 i = a_sets i := gback_of (u := u_48) (x := x_61) (y := nI w_56) (z := (-65)) (by decide) (by decide) ⟨gp, hSt⟩ hp1 hf_52 (ef_62.trans (by rw [show Int32.toNatClampNeg 1 = 1 from by decide])) ex_61 (ex_54.trans (by rw [show Int32.toNatClampNeg 1 = 1 from by decide])) (by decide)
    refine lv_iinc (v := 2) (lv' := [(2, .int 2), (0, .ref h0), (1, .int 6)]) hx hb dX12_give_217 hl (k := 0) rfl (by decide) (by decide) rfl (fun ls hl => ?_)
    refine lv_goto (tgt := 172) hx hb dX12_give_220 (by decide) ?_
    refine lv_iload_n hx hb dX12_give_172 rfl (lv_at hl 0 rfl) ?_
    refine lv_iconst (v := 4) hx hb dX12_give_173 (by decide) ?_
    refine lv_icmp_ge (tgt := 223) hx hb dX12_give_174 (by decide) (fun c9 => absurd c9 (by decide)) (fun _ => ?_)
    refine lv_aload_n hx hb dX12_give_177 rfl (lv_at hl 1 rfl) ?_
    refine va_get (D := E.1) (ci := 12) (v := .ref (q 53)) (C := RX12) (T := TX12) (N := 59) hx hb hts inX12 hown hK hP 0 rfl rfl 53 (by decide) fl136 (fun _ h9 => h9) rfl dX12_give_178 ?_
    refine lv_iload_n hx hb dX12_give_181 rfl (lv_at hl 2 rfl) ?_
    refine lv_iload_n hx hb dX12_give_182 rfl (lv_at hl 0 rfl) ?_
    refine va_iast hx hb hK hP hD hS 4 0 rfl rfl (show vp_in 6 7 from by unfold vp_in; decide) dX12_give_183 (fun H locs hP hD hS => ?_)
    have hP : va_P E.1 vwCl [(h0, .inr (12, mG q i_taped i_size i_sort i_what i_at i_end i_worth i_faultKind i_faultPlace i_got i_worked (nI dl) i_isPlanned u_46 u_47)), (q 51, .inl (E.2.1 0, 512, .inl a_least)), (q 55, .inl (E.2.1 0, 4, .inl f_62)), (q 54, .inl (E.2.1 0, 7, .inl u_49)), (q 53, .inl (E.2.1 0, 7, .inl (upd u_50 (Int32.toNatClampNeg 6) 2)))] H := hP
    have hD : va_D A [(h0, .inr (12, mG q i_taped i_size i_sort i_what i_at i_end i_worth i_faultKind i_faultPlace i_got i_worked (nI dl) i_isPlanned u_46 u_47)), (q 51, .inl (E.2.1 0, 512, .inl a_least)), (q 55, .inl (E.2.1 0, 4, .inl f_62)), (q 54, .inl (E.2.1 0, 7, .inl u_49)), (q 53, .inl (E.2.1 0, 7, .inl (upd u_50 (Int32.toNatClampNeg 6) 2)))] := hD
    obtain ⟨f_64, ef_64⟩ : ∃ g : Nat → Int32, g = upd u_50 (Int32.toNatClampNeg 6) 2 := ⟨_, rfl⟩
    rw [← ef_64] at hP hD
    refine lv_aload_n hx hb dX12_give_184 rfl (lv_at hl 1 rfl) ?_
    refine va_get (D := E.1) (ci := 12) (v := .ref (q 55)) (C := RX12) (T := TX12) (N := 59) hx hb hts inX12 hown hK hP 0 rfl rfl 55 (by decide) fl142 (fun _ h9 => h9) rfl dX12_give_185 ?_
    refine lv_iload_n hx hb dX12_give_188 rfl (lv_at hl 0 rfl) ?_
    refine lv_dup2_11 hx hb dX12_give_189 rfl rfl ?_
    refine va_iald hx hb hK hP 2 0 rfl rfl (show vp_in 2 4 from by unfold vp_in; decide) dX12_give_190 ?_
    refine lv_topi (fun x_65 ex_65 => ?_)
    have hv_66 : inR x_65 0 127 = true := by rw [ex_65]; exact hI_63 _ (vin_cl (show vp_in 2 4 from by unfold vp_in; decide))
    obtain ⟨w_67, hw_68, ew_69⟩ := inR_nI (n := 127) (by decide) hv_66
    subst ew_69
    refine lv_iconst (v := 1) hx hb dX12_give_191 (by decide) ?_
    refine lv_iload_n hx hb dX12_give_192 rfl (lv_at hl 2 rfl) ?_
    refine lv_ishl hx hb dX12_give_193 ?_
    refine lv_topi (fun x_70 ex_70 => ?_)
    obtain rfl : x_70 = 64 := ex_70.trans (by decide +kernel)
    refine lv_ior hx hb dX12_give_194 ?_
    refine lv_topi (fun x_71 ex_71 => ?_)
    refine va_iast hx hb hK hP hD hS 2 0 rfl rfl (show vp_in 2 4 from by unfold vp_in; decide) dX12_give_195 (fun H locs hP hD hS => ?_)
    have hP : va_P E.1 vwCl [(h0, .inr (12, mG q i_taped i_size i_sort i_what i_at i_end i_worth i_faultKind i_faultPlace i_got i_worked (nI dl) i_isPlanned u_46 u_47)), (q 51, .inl (E.2.1 0, 512, .inl a_least)), (q 55, .inl (E.2.1 0, 4, .inl (upd f_62 (Int32.toNatClampNeg 2) x_71))), (q 54, .inl (E.2.1 0, 7, .inl u_49)), (q 53, .inl (E.2.1 0, 7, .inl f_64))] H := hP
    have hD : va_D A [(h0, .inr (12, mG q i_taped i_size i_sort i_what i_at i_end i_worth i_faultKind i_faultPlace i_got i_worked (nI dl) i_isPlanned u_46 u_47)), (q 51, .inl (E.2.1 0, 512, .inl a_least)), (q 55, .inl (E.2.1 0, 4, .inl (upd f_62 (Int32.toNatClampNeg 2) x_71))), (q 54, .inl (E.2.1 0, 7, .inl u_49)), (q 53, .inl (E.2.1 0, 7, .inl f_64))] := hD
    obtain ⟨f_72, ef_72⟩ : ∃ g : Nat → Int32, g = upd f_62 (Int32.toNatClampNeg 2) x_71 := ⟨_, rfl⟩
    rw [← ef_72] at hP hD
    have hI_73 : ∀ k : Nat, k < 4 → inR (f_72 k) 0 127 = true := by rw [ef_72]; exact all_upd (P := fun z => inR z 0 127 = true) hI_63 (by rw [ex_71]; exact or_lt7 _ (by omega) 6 (by decide))
    refine lv_aload_n hx hb dX12_give_196 rfl (lv_at hl 1 rfl) ?_
    refine lv_iload_n hx hb dX12_give_197 rfl (lv_at hl 2 rfl) ?_
    refine lv_iconst (v := 1) hx hb dX12_give_198 (by decide) ?_
    refine lv_iadd hx hb dX12_give_199 ?_
    refine lv_topi (fun x_74 ex_74 => ?_)
    obtain rfl : x_74 = 7 := ex_74.trans (by decide +kernel)
    have hp2 : ∀ i : Nat, i < 4 → f_72 i = put a_sets 2 6 i := put_of (prev := f_62) (x := x_71) (y := nI w_67) (z := 64) hb1 (by decide) (ef_72.trans (by rw [show Int32.toNatClampNeg 2 = 2 from by decide])) ex_71 (ex_65.trans (by rw [show Int32.toNatClampNeg 2 = 2 from by decide])) (by decide)
    have hv2 : ∀ k : Nat, k < 6 + 1 → f_64 k = gI (pg gp 6 2 k) := gv_put (cur := u_50) (gv_cur (gv_cur (fun k hk => rfl) (ef_2.trans (by rw [show Int32.toNatClampNeg 6 = 6 from by decide])) hf_22) (ef_33.trans (by rw [show Int32.toNatClampNeg 6 = 6 from by decide])) hf_53) hGv (ef_64.trans (by rw [show Int32.toNatClampNeg 6 = 6 from by decide])) (by decide)
    have hPc := hP.sub (ws' := [(h0, .inr (12, mG q i_taped i_size i_sort i_what i_at i_end i_worth i_faultKind i_faultPlace i_got i_worked (nI dl) i_isPlanned u_46 u_47)), (q 51, .inl (E.2.1 0, 512, .inl a_least)), (q 55, .inl (E.2.1 0, 4, .inl f_72)), (q 54, .inl (E.2.1 0, 7, .inl u_49)), (q 53, .inl (E.2.1 0, 7, .inl f_64))]) [0, 1, 2, 3, 4] rfl
    have hDc := hD.sub (ws' := [(h0, .inr (12, mG q i_taped i_size i_sort i_what i_at i_end i_worth i_faultKind i_faultPlace i_got i_worked (nI dl) i_isPlanned u_46 u_47)), (q 51, .inl (E.2.1 0, 512, .inl a_least)), (q 55, .inl (E.2.1 0, 4, .inl f_72)), (q 54, .inl (E.2.1 0, 7, .inl u_49)), (q 53, .inl (E.2.1 0, 7, .inl f_64))]) [0, 1, 2, 3, 4] (by decide) rfl
    have hFc := va_free (wc := [(h0, .inr (12, mG q i_taped i_size i_sort i_what i_at i_end i_worth i_faultKind i_faultPlace i_got i_worked (nI dl) i_isPlanned u_46 u_47)), (q 51, .inl (E.2.1 0, 512, .inl a_least)), (q 55, .inl (E.2.1 0, 4, .inl f_72)), (q 54, .inl (E.2.1 0, 7, .inl u_49)), (q 53, .inl (E.2.1 0, 7, .inl f_64))]) hD hS hA [0, 1, 2, 3, 4] rfl
    refine va_callv (va_runV (As := [.int 7]) (rest := []) ⟨hx, hb, hml, hown, hts⟩ (c_X12_give7 l E h0 q i_taped i_size i_sort i_what i_at i_end i_worth i_faultKind i_faultPlace i_got i_worked i_isPlanned u_46 u_47 dl FF CC (pg gp 6 2) a_least f_72 u_49 f_64 H.size hdl hd2 (pg_le hp (by decide)) (st_put hSt hp2) hv2 (BG_M M_s hw_45) hKm hCb hI_73) (cwV 1 hts gX12_give_X12_give rfl rfl rfl hdV_X12_give ⟨Nat.le_of_ble_eq_true rfl, Nat.le_of_ble_eq_true rfl⟩) ⟨pcW_blind, va_recv hK hPc (ci := 12) (q0 := 0) rfl rfl, (pcW_pre hPc hkn hDc hst hS hFc)⟩ rfl rfl hl.1 rfl (lv_room (Nat.le_of_ble_eq_true rfl)) dX12_give_200 ⟨Nat.le_of_ble_eq_true rfl, Nat.le_of_ble_eq_true rfl⟩) hS (fun q _ h => hFc q h) hFc (fun u t H1 locs ht hvm hw_76 hB hz1 hk1 hS => ?_)
    obtain ⟨u_77, u_78, u_79, u_80, u_81⟩ := u
    obtain ⟨hf_82, hf_83, hf_84, hP1, hD1⟩ := hB
    rw [ht] at hP1
    try dsimp only at hw_76
    obtain ⟨hP, hD⟩ := va_join (wr := []) (w1 := [(h0, .inr (12, mG q i_taped i_size i_sort i_what i_at i_end i_worth i_faultKind i_faultPlace i_got i_worked (nI dl) i_isPlanned u_77 u_78)), (q 51, .inl (E.2.1 0, 512, .inl a_least)), (q 55, .inl (E.2.1 0, 4, .inl u_79)), (q 54, .inl (E.2.1 0, 7, .inl u_80)), (q 53, .inl (E.2.1 0, 7, .inl u_81))]) hP hD [0, 1, 2, 3, 4] [] rfl rfl (by decide) (by decide) hk1 hFc hP1 hD1
    generalize H1 = H at hP hS ⊢
    have hP : va_P E.1 vwCl [(h0, .inr (12, mG q i_taped i_size i_sort i_what i_at i_end i_worth i_faultKind i_faultPlace i_got i_worked (nI dl) i_isPlanned u_77 u_78)), (q 51, .inl (E.2.1 0, 512, .inl a_least)), (q 55, .inl (E.2.1 0, 4, .inl u_79)), (q 54, .inl (E.2.1 0, 7, .inl u_80)), (q 53, .inl (E.2.1 0, 7, .inl u_81))] H := hP
    have hD : va_D A [(h0, .inr (12, mG q i_taped i_size i_sort i_what i_at i_end i_worth i_faultKind i_faultPlace i_got i_worked (nI dl) i_isPlanned u_77 u_78)), (q 51, .inl (E.2.1 0, 512, .inl a_least)), (q 55, .inl (E.2.1 0, 4, .inl u_79)), (q 54, .inl (E.2.1 0, 7, .inl u_80)), (q 53, .inl (E.2.1 0, 7, .inl u_81))] := hD
    refine lv_aload_n hx hb dX12_give_203 rfl (lv_at hl 1 rfl) ?_
    refine va_get (D := E.1) (ci := 12) (v := .ref (q 55)) (C := RX12) (T := TX12) (N := 59) hx hb hts inX12 hown hK hP 0 rfl rfl 55 (by decide) fl142 (fun _ h9 => h9) rfl dX12_give_204 ?_
    refine lv_iload_n hx hb dX12_give_207 rfl (lv_at hl 0 rfl) ?_
    refine lv_dup2_11 hx hb dX12_give_208 rfl rfl ?_
    refine va_iald hx hb hK hP 2 0 rfl rfl (show vp_in 2 4 from by unfold vp_in; decide) dX12_give_209 ?_
    refine lv_topi (fun x_85 ex_85 => ?_)
    have hv_86 : inR x_85 0 127 = true := by rw [ex_85]; exact hf_82 _ (vin_cl (show vp_in 2 4 from by unfold vp_in; decide))
    obtain ⟨w_87, hw_88, ew_89⟩ := inR_nI (n := 127) (by decide) hv_86
    subst ew_89
    refine lv_iconst (v := 1) hx hb dX12_give_210 (by decide) ?_
    refine lv_iload_n hx hb dX12_give_211 rfl (lv_at hl 2 rfl) ?_
    refine lv_ishl hx hb dX12_give_212 ?_
    refine lv_topi (fun x_90 ex_90 => ?_)
    obtain rfl : x_90 = 64 := ex_90.trans (by decide +kernel)
    refine lv_iconst (v := (-1)) hx hb dX12_give_213 (by decide) ?_
    refine lv_ixor hx hb dX12_give_214 ?_
    refine lv_topi (fun x_91 ex_91 => ?_)
    obtain rfl : x_91 = (-65) := ex_91.trans (by decide +kernel)
    refine lv_iand hx hb dX12_give_215 ?_
    refine lv_topi (fun x_92 ex_92 => ?_)
    refine va_iast hx hb hK hP hD hS 2 0 rfl rfl (show vp_in 2 4 from by unfold vp_in; decide) dX12_give_216 (fun H locs hP hD hS => ?_)
    have hP : va_P E.1 vwCl [(h0, .inr (12, mG q i_taped i_size i_sort i_what i_at i_end i_worth i_faultKind i_faultPlace i_got i_worked (nI dl) i_isPlanned u_77 u_78)), (q 51, .inl (E.2.1 0, 512, .inl a_least)), (q 55, .inl (E.2.1 0, 4, .inl (upd u_79 (Int32.toNatClampNeg 2) x_92))), (q 54, .inl (E.2.1 0, 7, .inl u_80)), (q 53, .inl (E.2.1 0, 7, .inl u_81))] H := hP
    have hD : va_D A [(h0, .inr (12, mG q i_taped i_size i_sort i_what i_at i_end i_worth i_faultKind i_faultPlace i_got i_worked (nI dl) i_isPlanned u_77 u_78)), (q 51, .inl (E.2.1 0, 512, .inl a_least)), (q 55, .inl (E.2.1 0, 4, .inl (upd u_79 (Int32.toNatClampNeg 2) x_92))), (q 54, .inl (E.2.1 0, 7, .inl u_80)), (q 53, .inl (E.2.1 0, 7, .inl u_81))] := hD
    obtain ⟨f_93, ef_93⟩ : ∃ g : Nat → Int32, g = upd u_79 (Int32.toNatClampNeg 2) x_92 := ⟨_, rfl⟩
    rw [← ef_93] at hP hD
    have hI_94 : ∀ k : Nat, k < 4 → inR (f_93 k) 0 127 = true := by rw [ef_93]; exact all_upd (P := fun z => inR z 0 127 = true) hf_82 (by rw [ex_92]; exact and_lt7 _ (by omega) 6 (by decide))
    have hb2 : ∀ i : Nat, i < 4 → f_93 i = a_sets i := gback_of (u := u_79) (x := x_92) (y := nI w_87) (z := (-65)) (by decide) (by decide) ⟨gp, hSt⟩ hp2 hf_83 (ef_93.trans (by rw [show Int32.toNatClampNeg 2 = 2 from by decide])) ex_92 (ex_85.trans (by rw [show Int32.toNatClampNeg 2 = 2 from by decide])) (by decide)
    refine lv_iinc (v := 3) (lv' := [(2, .int 3), (0, .ref h0), (1, .int 6)]) hx hb dX12_give_217 hl (k := 0) rfl (by decide) (by decide) rfl (fun ls hl => ?_)
    refine lv_goto (tgt := 172) hx hb dX12_give_220 (by decide) ?_
    refine lv_iload_n hx hb dX12_give_172 rfl (lv_at hl 0 rfl) ?_
    refine lv_iconst (v := 4) hx hb dX12_give_173 (by decide) ?_
    refine lv_icmp_ge (tgt := 223) hx hb dX12_give_174 (by decide) (fun c9 => absurd c9 (by decide)) (fun _ => ?_)
    refine lv_aload_n hx hb dX12_give_177 rfl (lv_at hl 1 rfl) ?_
    refine va_get (D := E.1) (ci := 12) (v := .ref (q 53)) (C := RX12) (T := TX12) (N := 59) hx hb hts inX12 hown hK hP 0 rfl rfl 53 (by decide) fl136 (fun _ h9 => h9) rfl dX12_give_178 ?_
    refine lv_iload_n hx hb dX12_give_181 rfl (lv_at hl 2 rfl) ?_
    refine lv_iload_n hx hb dX12_give_182 rfl (lv_at hl 0 rfl) ?_
    refine va_iast hx hb hK hP hD hS 4 0 rfl rfl (show vp_in 6 7 from by unfold vp_in; decide) dX12_give_183 (fun H locs hP hD hS => ?_)
    have hP : va_P E.1 vwCl [(h0, .inr (12, mG q i_taped i_size i_sort i_what i_at i_end i_worth i_faultKind i_faultPlace i_got i_worked (nI dl) i_isPlanned u_77 u_78)), (q 51, .inl (E.2.1 0, 512, .inl a_least)), (q 55, .inl (E.2.1 0, 4, .inl f_93)), (q 54, .inl (E.2.1 0, 7, .inl u_80)), (q 53, .inl (E.2.1 0, 7, .inl (upd u_81 (Int32.toNatClampNeg 6) 3)))] H := hP
    have hD : va_D A [(h0, .inr (12, mG q i_taped i_size i_sort i_what i_at i_end i_worth i_faultKind i_faultPlace i_got i_worked (nI dl) i_isPlanned u_77 u_78)), (q 51, .inl (E.2.1 0, 512, .inl a_least)), (q 55, .inl (E.2.1 0, 4, .inl f_93)), (q 54, .inl (E.2.1 0, 7, .inl u_80)), (q 53, .inl (E.2.1 0, 7, .inl (upd u_81 (Int32.toNatClampNeg 6) 3)))] := hD
    obtain ⟨f_95, ef_95⟩ : ∃ g : Nat → Int32, g = upd u_81 (Int32.toNatClampNeg 6) 3 := ⟨_, rfl⟩
    rw [← ef_95] at hP hD
    refine lv_aload_n hx hb dX12_give_184 rfl (lv_at hl 1 rfl) ?_
    refine va_get (D := E.1) (ci := 12) (v := .ref (q 55)) (C := RX12) (T := TX12) (N := 59) hx hb hts inX12 hown hK hP 0 rfl rfl 55 (by decide) fl142 (fun _ h9 => h9) rfl dX12_give_185 ?_
    refine lv_iload_n hx hb dX12_give_188 rfl (lv_at hl 0 rfl) ?_
    refine lv_dup2_11 hx hb dX12_give_189 rfl rfl ?_
    refine va_iald hx hb hK hP 2 0 rfl rfl (show vp_in 3 4 from by unfold vp_in; decide) dX12_give_190 ?_
    refine lv_topi (fun x_96 ex_96 => ?_)
    have hv_97 : inR x_96 0 127 = true := by rw [ex_96]; exact hI_94 _ (vin_cl (show vp_in 3 4 from by unfold vp_in; decide))
    obtain ⟨w_98, hw_99, ew_100⟩ := inR_nI (n := 127) (by decide) hv_97
    subst ew_100
    refine lv_iconst (v := 1) hx hb dX12_give_191 (by decide) ?_
    refine lv_iload_n hx hb dX12_give_192 rfl (lv_at hl 2 rfl) ?_
    refine lv_ishl hx hb dX12_give_193 ?_
    refine lv_topi (fun x_101 ex_101 => ?_)
    obtain rfl : x_101 = 64 := ex_101.trans (by decide +kernel)
    refine lv_ior hx hb dX12_give_194 ?_
    refine lv_topi (fun x_102 ex_102 => ?_)
    refine va_iast hx hb hK hP hD hS 2 0 rfl rfl (show vp_in 3 4 from by unfold vp_in; decide) dX12_give_195 (fun H locs hP hD hS => ?_)
    have hP : va_P E.1 vwCl [(h0, .inr (12, mG q i_taped i_size i_sort i_what i_at i_end i_worth i_faultKind i_faultPlace i_got i_worked (nI dl) i_isPlanned u_77 u_78)), (q 51, .inl (E.2.1 0, 512, .inl a_least)), (q 55, .inl (E.2.1 0, 4, .inl (upd f_93 (Int32.toNatClampNeg 3) x_102))), (q 54, .inl (E.2.1 0, 7, .inl u_80)), (q 53, .inl (E.2.1 0, 7, .inl f_95))] H := hP
    have hD : va_D A [(h0, .inr (12, mG q i_taped i_size i_sort i_what i_at i_end i_worth i_faultKind i_faultPlace i_got i_worked (nI dl) i_isPlanned u_77 u_78)), (q 51, .inl (E.2.1 0, 512, .inl a_least)), (q 55, .inl (E.2.1 0, 4, .inl (upd f_93 (Int32.toNatClampNeg 3) x_102))), (q 54, .inl (E.2.1 0, 7, .inl u_80)), (q 53, .inl (E.2.1 0, 7, .inl f_95))] := hD
    obtain ⟨f_103, ef_103⟩ : ∃ g : Nat → Int32, g = upd f_93 (Int32.toNatClampNeg 3) x_102 := ⟨_, rfl⟩
    rw [← ef_103] at hP hD
    have hI_104 : ∀ k : Nat, k < 4 → inR (f_103 k) 0 127 = true := by rw [ef_103]; exact all_upd (P := fun z => inR z 0 127 = true) hI_94 (by rw [ex_102]; exact or_lt7 _ (by omega) 6 (by decide))
    refine lv_aload_n hx hb dX12_give_196 rfl (lv_at hl 1 rfl) ?_
    refine lv_iload_n hx hb dX12_give_197 rfl (lv_at hl 2 rfl) ?_
    refine lv_iconst (v := 1) hx hb dX12_give_198 (by decide) ?_
    refine lv_iadd hx hb dX12_give_199 ?_
    refine lv_topi (fun x_105 ex_105 => ?_)
    obtain rfl : x_105 = 7 := ex_105.trans (by decide +kernel)
    have hp3 : ∀ i : Nat, i < 4 → f_103 i = put a_sets 3 6 i := put_of (prev := f_93) (x := x_102) (y := nI w_98) (z := 64) hb2 (by decide) (ef_103.trans (by rw [show Int32.toNatClampNeg 3 = 3 from by decide])) ex_102 (ex_96.trans (by rw [show Int32.toNatClampNeg 3 = 3 from by decide])) (by decide)
    have hv3 : ∀ k : Nat, k < 6 + 1 → f_95 k = gI (pg gp 6 3 k) := gv_put (cur := u_81) (gv_cur (gv_cur (gv_cur (fun k hk => rfl) (ef_2.trans (by rw [show Int32.toNatClampNeg 6 = 6 from by decide])) hf_22) (ef_33.trans (by rw [show Int32.toNatClampNeg 6 = 6 from by decide])) hf_53) (ef_64.trans (by rw [show Int32.toNatClampNeg 6 = 6 from by decide])) hf_84) hGv (ef_95.trans (by rw [show Int32.toNatClampNeg 6 = 6 from by decide])) (by decide)
    have hPc := hP.sub (ws' := [(h0, .inr (12, mG q i_taped i_size i_sort i_what i_at i_end i_worth i_faultKind i_faultPlace i_got i_worked (nI dl) i_isPlanned u_77 u_78)), (q 51, .inl (E.2.1 0, 512, .inl a_least)), (q 55, .inl (E.2.1 0, 4, .inl f_103)), (q 54, .inl (E.2.1 0, 7, .inl u_80)), (q 53, .inl (E.2.1 0, 7, .inl f_95))]) [0, 1, 2, 3, 4] rfl
    have hDc := hD.sub (ws' := [(h0, .inr (12, mG q i_taped i_size i_sort i_what i_at i_end i_worth i_faultKind i_faultPlace i_got i_worked (nI dl) i_isPlanned u_77 u_78)), (q 51, .inl (E.2.1 0, 512, .inl a_least)), (q 55, .inl (E.2.1 0, 4, .inl f_103)), (q 54, .inl (E.2.1 0, 7, .inl u_80)), (q 53, .inl (E.2.1 0, 7, .inl f_95))]) [0, 1, 2, 3, 4] (by decide) rfl
    have hFc := va_free (wc := [(h0, .inr (12, mG q i_taped i_size i_sort i_what i_at i_end i_worth i_faultKind i_faultPlace i_got i_worked (nI dl) i_isPlanned u_77 u_78)), (q 51, .inl (E.2.1 0, 512, .inl a_least)), (q 55, .inl (E.2.1 0, 4, .inl f_103)), (q 54, .inl (E.2.1 0, 7, .inl u_80)), (q 53, .inl (E.2.1 0, 7, .inl f_95))]) hD hS hA [0, 1, 2, 3, 4] rfl
    refine va_callv (va_runV (As := [.int 7]) (rest := []) ⟨hx, hb, hml, hown, hts⟩ (c_X12_give7 l E h0 q i_taped i_size i_sort i_what i_at i_end i_worth i_faultKind i_faultPlace i_got i_worked i_isPlanned u_77 u_78 dl FF CC (pg gp 6 3) a_least f_103 u_80 f_95 H.size hdl hd2 (pg_le hp (by decide)) (st_put hSt hp3) hv3 (BG_M M_s hw_76) hKm hCb hI_104) (cwV 1 hts gX12_give_X12_give rfl rfl rfl hdV_X12_give ⟨Nat.le_of_ble_eq_true rfl, Nat.le_of_ble_eq_true rfl⟩) ⟨pcW_blind, va_recv hK hPc (ci := 12) (q0 := 0) rfl rfl, (pcW_pre hPc hkn hDc hst hS hFc)⟩ rfl rfl hl.1 rfl (lv_room (Nat.le_of_ble_eq_true rfl)) dX12_give_200 ⟨Nat.le_of_ble_eq_true rfl, Nat.le_of_ble_eq_true rfl⟩) hS (fun q _ h => hFc q h) hFc (fun u t H1 locs ht hvm hw_107 hB hz1 hk1 hS => ?_)
    obtain ⟨u_108, u_109, u_110, u_111, u_112⟩ := u
    obtain ⟨hf_113, hf_114, hf_115, hP1, hD1⟩ := hB
    rw [ht] at hP1
    try dsimp only at hw_107
    obtain ⟨hP, hD⟩ := va_join (wr := []) (w1 := [(h0, .inr (12, mG q i_taped i_size i_sort i_what i_at i_end i_worth i_faultKind i_faultPlace i_got i_worked (nI dl) i_isPlanned u_108 u_109)), (q 51, .inl (E.2.1 0, 512, .inl a_least)), (q 55, .inl (E.2.1 0, 4, .inl u_110)), (q 54, .inl (E.2.1 0, 7, .inl u_111)), (q 53, .inl (E.2.1 0, 7, .inl u_112))]) hP hD [0, 1, 2, 3, 4] [] rfl rfl (by decide) (by decide) hk1 hFc hP1 hD1
    generalize H1 = H at hP hS ⊢
    have hP : va_P E.1 vwCl [(h0, .inr (12, mG q i_taped i_size i_sort i_what i_at i_end i_worth i_faultKind i_faultPlace i_got i_worked (nI dl) i_isPlanned u_108 u_109)), (q 51, .inl (E.2.1 0, 512, .inl a_least)), (q 55, .inl (E.2.1 0, 4, .inl u_110)), (q 54, .inl (E.2.1 0, 7, .inl u_111)), (q 53, .inl (E.2.1 0, 7, .inl u_112))] H := hP
    have hD : va_D A [(h0, .inr (12, mG q i_taped i_size i_sort i_what i_at i_end i_worth i_faultKind i_faultPlace i_got i_worked (nI dl) i_isPlanned u_108 u_109)), (q 51, .inl (E.2.1 0, 512, .inl a_least)), (q 55, .inl (E.2.1 0, 4, .inl u_110)), (q 54, .inl (E.2.1 0, 7, .inl u_111)), (q 53, .inl (E.2.1 0, 7, .inl u_112))] := hD
    refine lv_aload_n hx hb dX12_give_203 rfl (lv_at hl 1 rfl) ?_
    refine va_get (D := E.1) (ci := 12) (v := .ref (q 55)) (C := RX12) (T := TX12) (N := 59) hx hb hts inX12 hown hK hP 0 rfl rfl 55 (by decide) fl142 (fun _ h9 => h9) rfl dX12_give_204 ?_
    refine lv_iload_n hx hb dX12_give_207 rfl (lv_at hl 0 rfl) ?_
    refine lv_dup2_11 hx hb dX12_give_208 rfl rfl ?_
    refine va_iald hx hb hK hP 2 0 rfl rfl (show vp_in 3 4 from by unfold vp_in; decide) dX12_give_209 ?_
    refine lv_topi (fun x_116 ex_116 => ?_)
    have hv_117 : inR x_116 0 127 = true := by rw [ex_116]; exact hf_113 _ (vin_cl (show vp_in 3 4 from by unfold vp_in; decide))
    obtain ⟨w_118, hw_119, ew_120⟩ := inR_nI (n := 127) (by decide) hv_117
    subst ew_120
    refine lv_iconst (v := 1) hx hb dX12_give_210 (by decide) ?_
    refine lv_iload_n hx hb dX12_give_211 rfl (lv_at hl 2 rfl) ?_
    refine lv_ishl hx hb dX12_give_212 ?_
    refine lv_topi (fun x_121 ex_121 => ?_)
    obtain rfl : x_121 = 64 := ex_121.trans (by decide +kernel)
    refine lv_iconst (v := (-1)) hx hb dX12_give_213 (by decide) ?_
    refine lv_ixor hx hb dX12_give_214 ?_
    refine lv_topi (fun x_122 ex_122 => ?_)
    obtain rfl : x_122 = (-65) := ex_122.trans (by decide +kernel)
    refine lv_iand hx hb dX12_give_215 ?_
    refine lv_topi (fun x_123 ex_123 => ?_)
    refine va_iast hx hb hK hP hD hS 2 0 rfl rfl (show vp_in 3 4 from by unfold vp_in; decide) dX12_give_216 (fun H locs hP hD hS => ?_)
    have hP : va_P E.1 vwCl [(h0, .inr (12, mG q i_taped i_size i_sort i_what i_at i_end i_worth i_faultKind i_faultPlace i_got i_worked (nI dl) i_isPlanned u_108 u_109)), (q 51, .inl (E.2.1 0, 512, .inl a_least)), (q 55, .inl (E.2.1 0, 4, .inl (upd u_110 (Int32.toNatClampNeg 3) x_123))), (q 54, .inl (E.2.1 0, 7, .inl u_111)), (q 53, .inl (E.2.1 0, 7, .inl u_112))] H := hP
    have hD : va_D A [(h0, .inr (12, mG q i_taped i_size i_sort i_what i_at i_end i_worth i_faultKind i_faultPlace i_got i_worked (nI dl) i_isPlanned u_108 u_109)), (q 51, .inl (E.2.1 0, 512, .inl a_least)), (q 55, .inl (E.2.1 0, 4, .inl (upd u_110 (Int32.toNatClampNeg 3) x_123))), (q 54, .inl (E.2.1 0, 7, .inl u_111)), (q 53, .inl (E.2.1 0, 7, .inl u_112))] := hD
    obtain ⟨f_124, ef_124⟩ : ∃ g : Nat → Int32, g = upd u_110 (Int32.toNatClampNeg 3) x_123 := ⟨_, rfl⟩
    rw [← ef_124] at hP hD
    have hI_125 : ∀ k : Nat, k < 4 → inR (f_124 k) 0 127 = true := by rw [ef_124]; exact all_upd (P := fun z => inR z 0 127 = true) hf_113 (by rw [ex_123]; exact and_lt7 _ (by omega) 6 (by decide))
    have hb3 : ∀ i : Nat, i < 4 → f_124 i = a_sets i := gback_of (u := u_110) (x := x_123) (y := nI w_118) (z := (-65)) (by decide) (by decide) ⟨gp, hSt⟩ hp3 hf_114 (ef_124.trans (by rw [show Int32.toNatClampNeg 3 = 3 from by decide])) ex_123 (ex_116.trans (by rw [show Int32.toNatClampNeg 3 = 3 from by decide])) (by decide)
    refine lv_iinc (v := 4) (lv' := [(2, .int 4), (0, .ref h0), (1, .int 6)]) hx hb dX12_give_217 hl (k := 0) rfl (by decide) (by decide) rfl (fun ls hl => ?_)
    refine lv_goto (tgt := 172) hx hb dX12_give_220 (by decide) ?_
    refine lv_iload_n hx hb dX12_give_172 rfl (lv_at hl 0 rfl) ?_
    refine lv_iconst (v := 4) hx hb dX12_give_173 (by decide) ?_
    refine lv_icmp_ge (tgt := 223) hx hb dX12_give_174 (by decide) (fun _ => ?_) (fun c9 => absurd c9 (by decide))
    refine lv_aload_n hx hb dX12_give_223 rfl (lv_at hl 1 rfl) ?_
    refine va_get (D := E.1) (ci := 12) (v := .ref (q 53)) (C := RX12) (T := TX12) (N := 59) hx hb hts inX12 hown hK hP 0 rfl rfl 53 (by decide) fl136 (fun _ h9 => h9) rfl dX12_give_224 ?_
    refine lv_iload_n hx hb dX12_give_227 rfl (lv_at hl 2 rfl) ?_
    refine lv_iconst (v := (-1)) hx hb dX12_give_228 (by decide) ?_
    refine va_iast hx hb hK hP hD hS 4 0 rfl rfl (show vp_in 6 7 from by unfold vp_in; decide) dX12_give_229 (fun H locs hP hD hS => ?_)
    have hP : va_P E.1 vwCl [(h0, .inr (12, mG q i_taped i_size i_sort i_what i_at i_end i_worth i_faultKind i_faultPlace i_got i_worked (nI dl) i_isPlanned u_108 u_109)), (q 51, .inl (E.2.1 0, 512, .inl a_least)), (q 55, .inl (E.2.1 0, 4, .inl f_124)), (q 54, .inl (E.2.1 0, 7, .inl u_111)), (q 53, .inl (E.2.1 0, 7, .inl (upd u_112 (Int32.toNatClampNeg 6) (-1))))] H := hP
    have hD : va_D A [(h0, .inr (12, mG q i_taped i_size i_sort i_what i_at i_end i_worth i_faultKind i_faultPlace i_got i_worked (nI dl) i_isPlanned u_108 u_109)), (q 51, .inl (E.2.1 0, 512, .inl a_least)), (q 55, .inl (E.2.1 0, 4, .inl f_124)), (q 54, .inl (E.2.1 0, 7, .inl u_111)), (q 53, .inl (E.2.1 0, 7, .inl (upd u_112 (Int32.toNatClampNeg 6) (-1))))] := hD
    obtain ⟨f_126, ef_126⟩ : ∃ g : Nat → Int32, g = upd u_112 (Int32.toNatClampNeg 6) (-1) := ⟨_, rfl⟩
    rw [← ef_126] at hP hD
    refine lv_aload_n hx hb dX12_give_230 rfl (lv_at hl 1 rfl) ?_
    refine lv_iload_n hx hb dX12_give_231 rfl (lv_at hl 2 rfl) ?_
    refine lv_iconst (v := 1) hx hb dX12_give_232 (by decide) ?_
    refine lv_iadd hx hb dX12_give_233 ?_
    refine lv_topi (fun x_127 ex_127 => ?_)
    obtain rfl : x_127 = 7 := ex_127.trans (by decide +kernel)
    have hv4 : ∀ k : Nat, k < 6 + 1 → f_126 k = gI (pg gp 6 4 k) := gv_put (cur := u_112) (gv_cur (gv_cur (gv_cur (gv_cur (fun k hk => rfl) (ef_2.trans (by rw [show Int32.toNatClampNeg 6 = 6 from by decide])) hf_22) (ef_33.trans (by rw [show Int32.toNatClampNeg 6 = 6 from by decide])) hf_53) (ef_64.trans (by rw [show Int32.toNatClampNeg 6 = 6 from by decide])) hf_84) (ef_95.trans (by rw [show Int32.toNatClampNeg 6 = 6 from by decide])) hf_115) hGv (ef_126.trans (by rw [show Int32.toNatClampNeg 6 = 6 from by decide])) (by decide)
    have hPc := hP.sub (ws' := [(h0, .inr (12, mG q i_taped i_size i_sort i_what i_at i_end i_worth i_faultKind i_faultPlace i_got i_worked (nI dl) i_isPlanned u_108 u_109)), (q 51, .inl (E.2.1 0, 512, .inl a_least)), (q 55, .inl (E.2.1 0, 4, .inl f_124)), (q 54, .inl (E.2.1 0, 7, .inl u_111)), (q 53, .inl (E.2.1 0, 7, .inl f_126))]) [0, 1, 2, 3, 4] rfl
    have hDc := hD.sub (ws' := [(h0, .inr (12, mG q i_taped i_size i_sort i_what i_at i_end i_worth i_faultKind i_faultPlace i_got i_worked (nI dl) i_isPlanned u_108 u_109)), (q 51, .inl (E.2.1 0, 512, .inl a_least)), (q 55, .inl (E.2.1 0, 4, .inl f_124)), (q 54, .inl (E.2.1 0, 7, .inl u_111)), (q 53, .inl (E.2.1 0, 7, .inl f_126))]) [0, 1, 2, 3, 4] (by decide) rfl
    have hFc := va_free (wc := [(h0, .inr (12, mG q i_taped i_size i_sort i_what i_at i_end i_worth i_faultKind i_faultPlace i_got i_worked (nI dl) i_isPlanned u_108 u_109)), (q 51, .inl (E.2.1 0, 512, .inl a_least)), (q 55, .inl (E.2.1 0, 4, .inl f_124)), (q 54, .inl (E.2.1 0, 7, .inl u_111)), (q 53, .inl (E.2.1 0, 7, .inl f_126))]) hD hS hA [0, 1, 2, 3, 4] rfl
    refine va_callv (va_runV (As := [.int 7]) (rest := []) ⟨hx, hb, hml, hown, hts⟩ (c_X12_give7 l E h0 q i_taped i_size i_sort i_what i_at i_end i_worth i_faultKind i_faultPlace i_got i_worked i_isPlanned u_108 u_109 dl FF CC (pg gp 6 4) a_least f_124 u_111 f_126 H.size hdl hd2 (pg_le hp (by decide)) (st_none hSt hb3) hv4 (BG_M M_s hw_107) hKm hCb hI_125) (cwV 1 hts gX12_give_X12_give rfl rfl rfl hdV_X12_give ⟨Nat.le_of_ble_eq_true rfl, Nat.le_of_ble_eq_true rfl⟩) ⟨pcW_blind, va_recv hK hPc (ci := 12) (q0 := 0) rfl rfl, (pcW_pre hPc hkn hDc hst hS hFc)⟩ rfl rfl hl.1 rfl (lv_room (Nat.le_of_ble_eq_true rfl)) dX12_give_234 ⟨Nat.le_of_ble_eq_true rfl, Nat.le_of_ble_eq_true rfl⟩) hS (fun q _ h => hFc q h) hFc (fun u t H1 locs ht hvm hw_129 hB hz1 hk1 hS => ?_)
    obtain ⟨u_130, u_131, u_132, u_133, u_134⟩ := u
    obtain ⟨hf_135, hf_136, hf_137, hP1, hD1⟩ := hB
    rw [ht] at hP1
    try dsimp only at hw_129
    obtain ⟨hP, hD⟩ := va_join (wr := []) (w1 := [(h0, .inr (12, mG q i_taped i_size i_sort i_what i_at i_end i_worth i_faultKind i_faultPlace i_got i_worked (nI dl) i_isPlanned u_130 u_131)), (q 51, .inl (E.2.1 0, 512, .inl a_least)), (q 55, .inl (E.2.1 0, 4, .inl u_132)), (q 54, .inl (E.2.1 0, 7, .inl u_133)), (q 53, .inl (E.2.1 0, 7, .inl u_134))]) hP hD [0, 1, 2, 3, 4] [] rfl rfl (by decide) (by decide) hk1 hFc hP1 hD1
    generalize H1 = H at hP hS ⊢
    have hP : va_P E.1 vwCl [(h0, .inr (12, mG q i_taped i_size i_sort i_what i_at i_end i_worth i_faultKind i_faultPlace i_got i_worked (nI dl) i_isPlanned u_130 u_131)), (q 51, .inl (E.2.1 0, 512, .inl a_least)), (q 55, .inl (E.2.1 0, 4, .inl u_132)), (q 54, .inl (E.2.1 0, 7, .inl u_133)), (q 53, .inl (E.2.1 0, 7, .inl u_134))] H := hP
    have hD : va_D A [(h0, .inr (12, mG q i_taped i_size i_sort i_what i_at i_end i_worth i_faultKind i_faultPlace i_got i_worked (nI dl) i_isPlanned u_130 u_131)), (q 51, .inl (E.2.1 0, 512, .inl a_least)), (q 55, .inl (E.2.1 0, 4, .inl u_132)), (q 54, .inl (E.2.1 0, 7, .inl u_133)), (q 53, .inl (E.2.1 0, 7, .inl u_134))] := hD
    have hP9 := hP.sub (ws' := [(h0, .inr (12, mG q i_taped i_size i_sort i_what i_at i_end i_worth i_faultKind i_faultPlace i_got i_worked (nI dl) i_isPlanned u_130 u_131)), (q 51, .inl (E.2.1 0, 512, .inl a_least)), (q 55, .inl (E.2.1 0, 4, .inl u_132)), (q 54, .inl (E.2.1 0, 7, .inl u_133)), (q 53, .inl (E.2.1 0, 7, .inl u_134))]) [0, 1, 2, 3, 4] rfl
    have hD9 := hD.sub (ws' := [(h0, .inr (12, mG q i_taped i_size i_sort i_what i_at i_end i_worth i_faultKind i_faultPlace i_got i_worked (nI dl) i_isPlanned u_130 u_131)), (q 51, .inl (E.2.1 0, 512, .inl a_least)), (q 55, .inl (E.2.1 0, 4, .inl u_132)), (q 54, .inl (E.2.1 0, 7, .inl u_133)), (q 53, .inl (E.2.1 0, 7, .inl u_134))]) [0, 1, 2, 3, 4] (by decide) rfl
    exact W.vret hx hb hr (fun t ht hW => ⟨⟨(u_130, u_131, u_132, u_133, u_134), rfl, (BG_M (M_5 hd2) hw_129), hf_135, (fun i hi => (hf_136 i hi).trans (hb3 i hi)), (gv_cur (gv_cur (gv_cur (gv_cur (gv_cur (fun k hk => rfl) (ef_2.trans (by rw [show Int32.toNatClampNeg 6 = 6 from by decide])) hf_22) (ef_33.trans (by rw [show Int32.toNatClampNeg 6 = 6 from by decide])) hf_53) (ef_64.trans (by rw [show Int32.toNatClampNeg 6 = 6 from by decide])) hf_84) (ef_95.trans (by rw [show Int32.toNatClampNeg 6 = 6 from by decide])) hf_115) (ef_126.trans (by rw [show Int32.toNatClampNeg 6 = 6 from by decide])) hf_137), by rw [ht]; exact hP9, hD9⟩, hS.F ht⟩) hS.2.2 dX12_give_237
  · have hn9 : dl = 6 := ((nI_eq (a := 6) (by decide) (by omega)).mp c_1).symm
    have hB9 := BG_pre hn9 hBG
    have hp9 : ∀ k : Nat, k < dl → gp k ≤ 4 := fun k hk => hp k (by omega)
    refine lv_iconst (v := 0) hx hb dX12_give_8 (by decide) ?_
    refine lv_istore_n (lv' := [(2, .int 0), (0, .ref h0), (1, .int 6)]) hx hb dX12_give_9 rfl hl (by decide) rfl (fun ls hl => ?_)
    refine lv_iconst (v := 0) hx hb dX12_give_10 (by decide) ?_
    refine lv_istore_n (lv' := [(3, .int 0), (2, .int 0), (0, .ref h0), (1, .int 6)]) hx hb dX12_give_11 rfl hl (by decide) rfl (fun ls hl => ?_)
    refine lv_iconst (v := 0) hx hb dX12_give_12 (by decide) ?_
    refine lv_istore (lv' := [(4, .int 0), (3, .int 0), (2, .int 0), (0, .ref h0), (1, .int 6)]) hx hb dX12_give_13 hl (by decide) rfl (fun ls hl => ?_)
    refine lv_iload hx hb dX12_give_15 (lv_at hl 0 rfl) ?_
    refine lv_iconst (v := 4) hx hb dX12_give_17 (by decide) ?_
    refine lv_icmp_ge (tgt := 102) hx hb dX12_give_18 (by decide) (fun c9 => absurd c9 (by decide)) (fun _ => ?_)
    refine lv_aload_n hx hb dX12_give_21 rfl (lv_at hl 3 rfl) ?_
    refine va_get (D := E.1) (ci := 12) (v := .ref (q 51)) (C := RX12) (T := TX12) (N := 59) hx hb hts inX12 hown hK hP 0 rfl rfl 51 (by decide) fl130 (fun _ h9 => h9) rfl dX12_give_22 ?_
    refine lv_sipush (v := 128) hx hb dX12_give_25 (by decide) ?_
    refine lv_iload hx hb dX12_give_28 (lv_at hl 0 rfl) ?_
    refine lv_imul hx hb dX12_give_30 ?_
    refine lv_topi (fun x_138 ex_138 => ?_)
    obtain rfl : x_138 = 0 := ex_138.trans (by decide +kernel)
    refine lv_aload_n hx hb dX12_give_31 rfl (lv_at hl 3 rfl) ?_
    refine va_get (D := E.1) (ci := 12) (v := .ref (q 55)) (C := RX12) (T := TX12) (N := 59) hx hb hts inX12 hown hK hP 0 rfl rfl 55 (by decide) fl142 (fun _ h9 => h9) rfl dX12_give_32 ?_
    refine lv_iload hx hb dX12_give_35 (lv_at hl 0 rfl) ?_
    refine va_iald hx hb hK hP 2 0 rfl rfl (show vp_in 0 4 from by unfold vp_in; decide) dX12_give_37 ?_
    refine lv_topi (fun x_139 ex_139 => ?_)
    have hv_140 : inR x_139 0 127 = true := by rw [ex_139]; exact hI_sets _ (vin_cl (show vp_in 0 4 from by unfold vp_in; decide))
    obtain ⟨w_141, hw_142, ew_143⟩ := inR_nI (n := 127) (by decide) hv_140
    subst ew_143
    have hw09 : w_141 = setOf gp 0 dl := by rw [hn9]; exact nI_inj (by omega) (s128 gp 0 (by decide)) (ex_139.trans (by rw [show Int32.toNatClampNeg 0 = 0 from by decide]; exact hSt 0 (by decide)))
    refine lv_iadd hx hb dX12_give_38 ?_
    refine lv_topi (fun x_144 ex_144 => ?_)
    obtain rfl : x_144 = nI (0 + w_141) := ex_144.trans (nI_add 0 w_141)
    have hi_145 : vp_in (nI (0 + w_141)) 512 := vp_in_nI (by omega) (by decide)
    refine va_iald hx hb hK hP 1 0 rfl rfl hi_145 dX12_give_39 ?_
    refine lv_topi (fun x_146 ex_146 => ?_)
    refine lv_iconst (v := (-1)) hx hb dX12_give_40 (by decide) ?_
    refine lv_icmp_ne (tgt := 45) hx hb dX12_give_41 (by decide) (fun c_147 => ?_) (fun c_147 => ?_)
    · have hn09 : ¬ a_least (128 * 0 + w_141) = -1 := fun q9 => c_147 (ex_146.trans (by rw [nI_clamp (by omega)]; exact q9))
      have hk0 : FF 0 (setOf gp 0 dl) := by rw [← hw09]; exact (hKm 0 (by decide) w_141 (by omega)).1.mp hn09
      refine lv_iload_n hx hb dX12_give_45 rfl (lv_at hl 1 rfl) ?_
      refine lv_aload_n hx hb dX12_give_46 rfl (lv_at hl 3 rfl) ?_
      refine va_get (D := E.1) (ci := 12) (v := .ref (q 51)) (C := RX12) (T := TX12) (N := 59) hx hb hts inX12 hown hK hP 0 rfl rfl 51 (by decide) fl130 (fun _ h9 => h9) rfl dX12_give_47 ?_
      refine lv_sipush (v := 128) hx hb dX12_give_50 (by decide) ?_
      refine lv_iload hx hb dX12_give_53 (lv_at hl 0 rfl) ?_
      refine lv_imul hx hb dX12_give_55 ?_
      refine lv_topi (fun x_148 ex_148 => ?_)
      obtain rfl : x_148 = 0 := ex_148.trans (by decide +kernel)
      refine lv_aload_n hx hb dX12_give_56 rfl (lv_at hl 3 rfl) ?_
      refine va_get (D := E.1) (ci := 12) (v := .ref (q 55)) (C := RX12) (T := TX12) (N := 59) hx hb hts inX12 hown hK hP 0 rfl rfl 55 (by decide) fl142 (fun _ h9 => h9) rfl dX12_give_57 ?_
      refine lv_iload hx hb dX12_give_60 (lv_at hl 0 rfl) ?_
      refine va_iald hx hb hK hP 2 0 rfl rfl (show vp_in 0 4 from by unfold vp_in; decide) dX12_give_62 ?_
      refine lv_topi (fun x_149 ex_149 => ?_)
      obtain rfl : x_149 = nI w_141 := ex_149.trans ex_139.symm
      refine lv_iadd hx hb dX12_give_63 ?_
      refine lv_topi (fun x_150 ex_150 => ?_)
      obtain rfl : x_150 = nI (0 + w_141) := ex_150.trans (nI_add 0 w_141)
      refine va_iald hx hb hK hP 1 0 rfl rfl hi_145 dX12_give_64 ?_
      refine lv_topi (fun x_151 ex_151 => ?_)
      refine lv_iadd hx hb dX12_give_65 ?_
      refine lv_topi (fun x_152 ex_152 => ?_)
      have hc09 := cost_nx (c := 0) (c2 := 1) (co_0 CC gp dl) (x := x_151) (co2 := x_152) ((by rw [ex_151, nI_clamp (by omega)]; exact (hKm 0 (by decide) w_141 (by omega)).2 hn09 : x_151.toInt = CC 0 w_141).trans (by rw [hw09])) (hCb 0 (by decide) _ hk0) ex_152 rfl (by decide)
      refine lv_istore_n (lv' := [(3, .int x_152), (4, .int 0), (2, .int 0), (0, .ref h0), (1, .int 6)]) hx hb dX12_give_66 rfl hl (by decide) rfl (fun ls hl => ?_)
      refine lv_aload_n hx hb dX12_give_67 rfl (lv_at hl 3 rfl) ?_
      refine va_get (D := E.1) (ci := 12) (v := .ref (q 55)) (C := RX12) (T := TX12) (N := 59) hx hb hts inX12 hown hK hP 0 rfl rfl 55 (by decide) fl142 (fun _ h9 => h9) rfl dX12_give_68 ?_
      refine lv_iload hx hb dX12_give_71 (lv_at hl 1 rfl) ?_
      refine va_iald hx hb hK hP 2 0 rfl rfl (show vp_in 0 4 from by unfold vp_in; decide) dX12_give_73 ?_
      refine lv_topi (fun x_153 ex_153 => ?_)
      obtain rfl : x_153 = nI w_141 := ex_153.trans ex_139.symm
      refine lv_istore (lv' := [(5, .int (nI w_141)), (3, .int x_152), (4, .int 0), (2, .int 0), (0, .ref h0), (1, .int 6)]) hx hb dX12_give_74 hl (by decide) rfl (fun ls hl => ?_)
      have hPl := hP.sub (ws' := [(h0, .inr (12, mG q i_taped i_size i_sort i_what i_at i_end i_worth i_faultKind i_faultPlace i_got i_worked (nI dl) i_isPlanned i_bestDone i_bestCost)), (q 51, .inl (E.2.1 0, 512, .inl a_least)), (q 55, .inl (E.2.1 0, 4, .inl a_sets)), (q 54, .inl (E.2.1 0, 7, .inl a_bestGiven)), (q 53, .inl (E.2.1 0, 7, .inl a_given))]) [0, 1, 2, 3, 4] rfl
      have hDl := hD.sub (ws' := [(h0, .inr (12, mG q i_taped i_size i_sort i_what i_at i_end i_worth i_faultKind i_faultPlace i_got i_worked (nI dl) i_isPlanned i_bestDone i_bestCost)), (q 51, .inl (E.2.1 0, 512, .inl a_least)), (q 55, .inl (E.2.1 0, 4, .inl a_sets)), (q 54, .inl (E.2.1 0, 7, .inl a_bestGiven)), (q 53, .inl (E.2.1 0, 7, .inl a_given))]) [0, 1, 2, 3, 4] (by decide) rfl
      refine lm_bits E h0 q i_taped i_size i_sort i_what i_at i_end i_worth i_faultKind i_faultPlace i_got i_worked i_isPlanned i_bestDone i_bestCost dl (0 + pc7 w_141) x_152 0 ([(q 51, .inl (E.2.1 0, 512, .inl a_least)), (q 55, .inl (E.2.1 0, 4, .inl a_sets)), (q 54, .inl (E.2.1 0, 7, .inl a_bestGiven)), (q 53, .inl (E.2.1 0, 7, .inl a_given))]) hx hb hml hown hts hkn hst hA  (fun n_154 H locs ls hm hP hD hS hl => ?_) (w_141 + 1) w_141 0 _ _ _ (Nat.lt_succ_self _) (by omega) rfl hPl hDl hS (lv_sub hl [4, 3, 1, 2, 0] rfl)
      have hP : va_P E.1 vwCl [(h0, .inr (12, mG q i_taped i_size i_sort i_what i_at i_end i_worth i_faultKind i_faultPlace i_got i_worked (nI dl) i_isPlanned i_bestDone i_bestCost)), (q 51, .inl (E.2.1 0, 512, .inl a_least)), (q 55, .inl (E.2.1 0, 4, .inl a_sets)), (q 54, .inl (E.2.1 0, 7, .inl a_bestGiven)), (q 53, .inl (E.2.1 0, 7, .inl a_given))] H := hP
      have hD : va_D A [(h0, .inr (12, mG q i_taped i_size i_sort i_what i_at i_end i_worth i_faultKind i_faultPlace i_got i_worked (nI dl) i_isPlanned i_bestDone i_bestCost)), (q 51, .inl (E.2.1 0, 512, .inl a_least)), (q 55, .inl (E.2.1 0, 4, .inl a_sets)), (q 54, .inl (E.2.1 0, 7, .inl a_bestGiven)), (q 53, .inl (E.2.1 0, 7, .inl a_given))] := hD
      have hm0 := hm
      refine lv_iinc (v := 1) (lv' := [(4, .int 1), (0, .ref h0), (2, .int (nI n_154)), (3, .int x_152)]) hx hb dX12_give_96 hl (k := 3) rfl (by decide) (by decide) rfl (fun ls hl => ?_)
      refine lv_goto (tgt := 15) hx hb dX12_give_99 (by decide) ?_
      refine lv_iload hx hb dX12_give_15 (lv_at hl 0 rfl) ?_
      refine lv_iconst (v := 4) hx hb dX12_give_17 (by decide) ?_
      refine lv_icmp_ge (tgt := 102) hx hb dX12_give_18 (by decide) (fun c9 => absurd c9 (by decide)) (fun _ => ?_)
      refine lv_aload_n hx hb dX12_give_21 rfl (lv_at hl 1 rfl) ?_
      refine va_get (D := E.1) (ci := 12) (v := .ref (q 51)) (C := RX12) (T := TX12) (N := 59) hx hb hts inX12 hown hK hP 0 rfl rfl 51 (by decide) fl130 (fun _ h9 => h9) rfl dX12_give_22 ?_
      refine lv_sipush (v := 128) hx hb dX12_give_25 (by decide) ?_
      refine lv_iload hx hb dX12_give_28 (lv_at hl 0 rfl) ?_
      refine lv_imul hx hb dX12_give_30 ?_
      refine lv_topi (fun x_155 ex_155 => ?_)
      obtain rfl : x_155 = 128 := ex_155.trans (by decide +kernel)
      refine lv_aload_n hx hb dX12_give_31 rfl (lv_at hl 1 rfl) ?_
      refine va_get (D := E.1) (ci := 12) (v := .ref (q 55)) (C := RX12) (T := TX12) (N := 59) hx hb hts inX12 hown hK hP 0 rfl rfl 55 (by decide) fl142 (fun _ h9 => h9) rfl dX12_give_32 ?_
      refine lv_iload hx hb dX12_give_35 (lv_at hl 0 rfl) ?_
      refine va_iald hx hb hK hP 2 0 rfl rfl (show vp_in 1 4 from by unfold vp_in; decide) dX12_give_37 ?_
      refine lv_topi (fun x_156 ex_156 => ?_)
      have hv_157 : inR x_156 0 127 = true := by rw [ex_156]; exact hI_sets _ (vin_cl (show vp_in 1 4 from by unfold vp_in; decide))
      obtain ⟨w_158, hw_159, ew_160⟩ := inR_nI (n := 127) (by decide) hv_157
      subst ew_160
      have hw19 : w_158 = setOf gp 1 dl := by rw [hn9]; exact nI_inj (by omega) (s128 gp 1 (by decide)) (ex_156.trans (by rw [show Int32.toNatClampNeg 1 = 1 from by decide]; exact hSt 1 (by decide)))
      refine lv_iadd hx hb dX12_give_38 ?_
      refine lv_topi (fun x_161 ex_161 => ?_)
      obtain rfl : x_161 = nI (128 + w_158) := ex_161.trans (nI_add 128 w_158)
      have hi_162 : vp_in (nI (128 + w_158)) 512 := vp_in_nI (by omega) (by decide)
      refine va_iald hx hb hK hP 1 0 rfl rfl hi_162 dX12_give_39 ?_
      refine lv_topi (fun x_163 ex_163 => ?_)
      refine lv_iconst (v := (-1)) hx hb dX12_give_40 (by decide) ?_
      refine lv_icmp_ne (tgt := 45) hx hb dX12_give_41 (by decide) (fun c_164 => ?_) (fun c_164 => ?_)
      · have hn19 : ¬ a_least (128 * 1 + w_158) = -1 := fun q9 => c_164 (ex_163.trans (by rw [nI_clamp (by omega)]; exact q9))
        have hk1 : FF 1 (setOf gp 1 dl) := by rw [← hw19]; exact (hKm 1 (by decide) w_158 (by omega)).1.mp hn19
        refine lv_iload_n hx hb dX12_give_45 rfl (lv_at hl 3 rfl) ?_
        refine lv_aload_n hx hb dX12_give_46 rfl (lv_at hl 1 rfl) ?_
        refine va_get (D := E.1) (ci := 12) (v := .ref (q 51)) (C := RX12) (T := TX12) (N := 59) hx hb hts inX12 hown hK hP 0 rfl rfl 51 (by decide) fl130 (fun _ h9 => h9) rfl dX12_give_47 ?_
        refine lv_sipush (v := 128) hx hb dX12_give_50 (by decide) ?_
        refine lv_iload hx hb dX12_give_53 (lv_at hl 0 rfl) ?_
        refine lv_imul hx hb dX12_give_55 ?_
        refine lv_topi (fun x_165 ex_165 => ?_)
        obtain rfl : x_165 = 128 := ex_165.trans (by decide +kernel)
        refine lv_aload_n hx hb dX12_give_56 rfl (lv_at hl 1 rfl) ?_
        refine va_get (D := E.1) (ci := 12) (v := .ref (q 55)) (C := RX12) (T := TX12) (N := 59) hx hb hts inX12 hown hK hP 0 rfl rfl 55 (by decide) fl142 (fun _ h9 => h9) rfl dX12_give_57 ?_
        refine lv_iload hx hb dX12_give_60 (lv_at hl 0 rfl) ?_
        refine va_iald hx hb hK hP 2 0 rfl rfl (show vp_in 1 4 from by unfold vp_in; decide) dX12_give_62 ?_
        refine lv_topi (fun x_166 ex_166 => ?_)
        obtain rfl : x_166 = nI w_158 := ex_166.trans ex_156.symm
        refine lv_iadd hx hb dX12_give_63 ?_
        refine lv_topi (fun x_167 ex_167 => ?_)
        obtain rfl : x_167 = nI (128 + w_158) := ex_167.trans (nI_add 128 w_158)
        refine va_iald hx hb hK hP 1 0 rfl rfl hi_162 dX12_give_64 ?_
        refine lv_topi (fun x_168 ex_168 => ?_)
        refine lv_iadd hx hb dX12_give_65 ?_
        refine lv_topi (fun x_169 ex_169 => ?_)
        have hc19 := cost_nx (c := 1) (c2 := 2) hc09 (x := x_168) (co2 := x_169) ((by rw [ex_168, nI_clamp (by omega)]; exact (hKm 1 (by decide) w_158 (by omega)).2 hn19 : x_168.toInt = CC 1 w_158).trans (by rw [hw19])) (hCb 1 (by decide) _ hk1) ex_169 rfl (by decide)
        refine lv_istore_n (lv' := [(3, .int x_169), (4, .int 1), (0, .ref h0), (2, .int (nI n_154))]) hx hb dX12_give_66 rfl hl (by decide) rfl (fun ls hl => ?_)
        refine lv_aload_n hx hb dX12_give_67 rfl (lv_at hl 2 rfl) ?_
        refine va_get (D := E.1) (ci := 12) (v := .ref (q 55)) (C := RX12) (T := TX12) (N := 59) hx hb hts inX12 hown hK hP 0 rfl rfl 55 (by decide) fl142 (fun _ h9 => h9) rfl dX12_give_68 ?_
        refine lv_iload hx hb dX12_give_71 (lv_at hl 1 rfl) ?_
        refine va_iald hx hb hK hP 2 0 rfl rfl (show vp_in 1 4 from by unfold vp_in; decide) dX12_give_73 ?_
        refine lv_topi (fun x_170 ex_170 => ?_)
        obtain rfl : x_170 = nI w_158 := ex_170.trans ex_156.symm
        refine lv_istore (lv' := [(5, .int (nI w_158)), (3, .int x_169), (4, .int 1), (0, .ref h0), (2, .int (nI n_154))]) hx hb dX12_give_74 hl (by decide) rfl (fun ls hl => ?_)
        have hPl := hP.sub (ws' := [(h0, .inr (12, mG q i_taped i_size i_sort i_what i_at i_end i_worth i_faultKind i_faultPlace i_got i_worked (nI dl) i_isPlanned i_bestDone i_bestCost)), (q 51, .inl (E.2.1 0, 512, .inl a_least)), (q 55, .inl (E.2.1 0, 4, .inl a_sets)), (q 54, .inl (E.2.1 0, 7, .inl a_bestGiven)), (q 53, .inl (E.2.1 0, 7, .inl a_given))]) [0, 1, 2, 3, 4] rfl
        have hDl := hD.sub (ws' := [(h0, .inr (12, mG q i_taped i_size i_sort i_what i_at i_end i_worth i_faultKind i_faultPlace i_got i_worked (nI dl) i_isPlanned i_bestDone i_bestCost)), (q 51, .inl (E.2.1 0, 512, .inl a_least)), (q 55, .inl (E.2.1 0, 4, .inl a_sets)), (q 54, .inl (E.2.1 0, 7, .inl a_bestGiven)), (q 53, .inl (E.2.1 0, 7, .inl a_given))]) [0, 1, 2, 3, 4] (by decide) rfl
        refine lm_bits E h0 q i_taped i_size i_sort i_what i_at i_end i_worth i_faultKind i_faultPlace i_got i_worked i_isPlanned i_bestDone i_bestCost dl (n_154 + pc7 w_158) x_169 1 ([(q 51, .inl (E.2.1 0, 512, .inl a_least)), (q 55, .inl (E.2.1 0, 4, .inl a_sets)), (q 54, .inl (E.2.1 0, 7, .inl a_bestGiven)), (q 53, .inl (E.2.1 0, 7, .inl a_given))]) hx hb hml hown hts hkn hst hA  (fun n_171 H locs ls hm hP hD hS hl => ?_) (w_158 + 1) w_158 n_154 _ _ _ (Nat.lt_succ_self _) (by omega) rfl hPl hDl hS (lv_sub hl [3, 4, 1, 2, 0] rfl)
        have hP : va_P E.1 vwCl [(h0, .inr (12, mG q i_taped i_size i_sort i_what i_at i_end i_worth i_faultKind i_faultPlace i_got i_worked (nI dl) i_isPlanned i_bestDone i_bestCost)), (q 51, .inl (E.2.1 0, 512, .inl a_least)), (q 55, .inl (E.2.1 0, 4, .inl a_sets)), (q 54, .inl (E.2.1 0, 7, .inl a_bestGiven)), (q 53, .inl (E.2.1 0, 7, .inl a_given))] H := hP
        have hD : va_D A [(h0, .inr (12, mG q i_taped i_size i_sort i_what i_at i_end i_worth i_faultKind i_faultPlace i_got i_worked (nI dl) i_isPlanned i_bestDone i_bestCost)), (q 51, .inl (E.2.1 0, 512, .inl a_least)), (q 55, .inl (E.2.1 0, 4, .inl a_sets)), (q 54, .inl (E.2.1 0, 7, .inl a_bestGiven)), (q 53, .inl (E.2.1 0, 7, .inl a_given))] := hD
        have hm1 := hm
        refine lv_iinc (v := 2) (lv' := [(4, .int 2), (0, .ref h0), (2, .int (nI n_171)), (3, .int x_169)]) hx hb dX12_give_96 hl (k := 3) rfl (by decide) (by decide) rfl (fun ls hl => ?_)
        refine lv_goto (tgt := 15) hx hb dX12_give_99 (by decide) ?_
        refine lv_iload hx hb dX12_give_15 (lv_at hl 0 rfl) ?_
        refine lv_iconst (v := 4) hx hb dX12_give_17 (by decide) ?_
        refine lv_icmp_ge (tgt := 102) hx hb dX12_give_18 (by decide) (fun c9 => absurd c9 (by decide)) (fun _ => ?_)
        refine lv_aload_n hx hb dX12_give_21 rfl (lv_at hl 1 rfl) ?_
        refine va_get (D := E.1) (ci := 12) (v := .ref (q 51)) (C := RX12) (T := TX12) (N := 59) hx hb hts inX12 hown hK hP 0 rfl rfl 51 (by decide) fl130 (fun _ h9 => h9) rfl dX12_give_22 ?_
        refine lv_sipush (v := 128) hx hb dX12_give_25 (by decide) ?_
        refine lv_iload hx hb dX12_give_28 (lv_at hl 0 rfl) ?_
        refine lv_imul hx hb dX12_give_30 ?_
        refine lv_topi (fun x_172 ex_172 => ?_)
        obtain rfl : x_172 = 256 := ex_172.trans (by decide +kernel)
        refine lv_aload_n hx hb dX12_give_31 rfl (lv_at hl 1 rfl) ?_
        refine va_get (D := E.1) (ci := 12) (v := .ref (q 55)) (C := RX12) (T := TX12) (N := 59) hx hb hts inX12 hown hK hP 0 rfl rfl 55 (by decide) fl142 (fun _ h9 => h9) rfl dX12_give_32 ?_
        refine lv_iload hx hb dX12_give_35 (lv_at hl 0 rfl) ?_
        refine va_iald hx hb hK hP 2 0 rfl rfl (show vp_in 2 4 from by unfold vp_in; decide) dX12_give_37 ?_
        refine lv_topi (fun x_173 ex_173 => ?_)
        have hv_174 : inR x_173 0 127 = true := by rw [ex_173]; exact hI_sets _ (vin_cl (show vp_in 2 4 from by unfold vp_in; decide))
        obtain ⟨w_175, hw_176, ew_177⟩ := inR_nI (n := 127) (by decide) hv_174
        subst ew_177
        have hw29 : w_175 = setOf gp 2 dl := by rw [hn9]; exact nI_inj (by omega) (s128 gp 2 (by decide)) (ex_173.trans (by rw [show Int32.toNatClampNeg 2 = 2 from by decide]; exact hSt 2 (by decide)))
        refine lv_iadd hx hb dX12_give_38 ?_
        refine lv_topi (fun x_178 ex_178 => ?_)
        obtain rfl : x_178 = nI (256 + w_175) := ex_178.trans (nI_add 256 w_175)
        have hi_179 : vp_in (nI (256 + w_175)) 512 := vp_in_nI (by omega) (by decide)
        refine va_iald hx hb hK hP 1 0 rfl rfl hi_179 dX12_give_39 ?_
        refine lv_topi (fun x_180 ex_180 => ?_)
        refine lv_iconst (v := (-1)) hx hb dX12_give_40 (by decide) ?_
        refine lv_icmp_ne (tgt := 45) hx hb dX12_give_41 (by decide) (fun c_181 => ?_) (fun c_181 => ?_)
        · have hn29 : ¬ a_least (128 * 2 + w_175) = -1 := fun q9 => c_181 (ex_180.trans (by rw [nI_clamp (by omega)]; exact q9))
          have hk2 : FF 2 (setOf gp 2 dl) := by rw [← hw29]; exact (hKm 2 (by decide) w_175 (by omega)).1.mp hn29
          refine lv_iload_n hx hb dX12_give_45 rfl (lv_at hl 3 rfl) ?_
          refine lv_aload_n hx hb dX12_give_46 rfl (lv_at hl 1 rfl) ?_
          refine va_get (D := E.1) (ci := 12) (v := .ref (q 51)) (C := RX12) (T := TX12) (N := 59) hx hb hts inX12 hown hK hP 0 rfl rfl 51 (by decide) fl130 (fun _ h9 => h9) rfl dX12_give_47 ?_
          refine lv_sipush (v := 128) hx hb dX12_give_50 (by decide) ?_
          refine lv_iload hx hb dX12_give_53 (lv_at hl 0 rfl) ?_
          refine lv_imul hx hb dX12_give_55 ?_
          refine lv_topi (fun x_182 ex_182 => ?_)
          obtain rfl : x_182 = 256 := ex_182.trans (by decide +kernel)
          refine lv_aload_n hx hb dX12_give_56 rfl (lv_at hl 1 rfl) ?_
          refine va_get (D := E.1) (ci := 12) (v := .ref (q 55)) (C := RX12) (T := TX12) (N := 59) hx hb hts inX12 hown hK hP 0 rfl rfl 55 (by decide) fl142 (fun _ h9 => h9) rfl dX12_give_57 ?_
          refine lv_iload hx hb dX12_give_60 (lv_at hl 0 rfl) ?_
          refine va_iald hx hb hK hP 2 0 rfl rfl (show vp_in 2 4 from by unfold vp_in; decide) dX12_give_62 ?_
          refine lv_topi (fun x_183 ex_183 => ?_)
          obtain rfl : x_183 = nI w_175 := ex_183.trans ex_173.symm
          refine lv_iadd hx hb dX12_give_63 ?_
          refine lv_topi (fun x_184 ex_184 => ?_)
          obtain rfl : x_184 = nI (256 + w_175) := ex_184.trans (nI_add 256 w_175)
          refine va_iald hx hb hK hP 1 0 rfl rfl hi_179 dX12_give_64 ?_
          refine lv_topi (fun x_185 ex_185 => ?_)
          refine lv_iadd hx hb dX12_give_65 ?_
          refine lv_topi (fun x_186 ex_186 => ?_)
          have hc29 := cost_nx (c := 2) (c2 := 3) hc19 (x := x_185) (co2 := x_186) ((by rw [ex_185, nI_clamp (by omega)]; exact (hKm 2 (by decide) w_175 (by omega)).2 hn29 : x_185.toInt = CC 2 w_175).trans (by rw [hw29])) (hCb 2 (by decide) _ hk2) ex_186 rfl (by decide)
          refine lv_istore_n (lv' := [(3, .int x_186), (4, .int 2), (0, .ref h0), (2, .int (nI n_171))]) hx hb dX12_give_66 rfl hl (by decide) rfl (fun ls hl => ?_)
          refine lv_aload_n hx hb dX12_give_67 rfl (lv_at hl 2 rfl) ?_
          refine va_get (D := E.1) (ci := 12) (v := .ref (q 55)) (C := RX12) (T := TX12) (N := 59) hx hb hts inX12 hown hK hP 0 rfl rfl 55 (by decide) fl142 (fun _ h9 => h9) rfl dX12_give_68 ?_
          refine lv_iload hx hb dX12_give_71 (lv_at hl 1 rfl) ?_
          refine va_iald hx hb hK hP 2 0 rfl rfl (show vp_in 2 4 from by unfold vp_in; decide) dX12_give_73 ?_
          refine lv_topi (fun x_187 ex_187 => ?_)
          obtain rfl : x_187 = nI w_175 := ex_187.trans ex_173.symm
          refine lv_istore (lv' := [(5, .int (nI w_175)), (3, .int x_186), (4, .int 2), (0, .ref h0), (2, .int (nI n_171))]) hx hb dX12_give_74 hl (by decide) rfl (fun ls hl => ?_)
          have hPl := hP.sub (ws' := [(h0, .inr (12, mG q i_taped i_size i_sort i_what i_at i_end i_worth i_faultKind i_faultPlace i_got i_worked (nI dl) i_isPlanned i_bestDone i_bestCost)), (q 51, .inl (E.2.1 0, 512, .inl a_least)), (q 55, .inl (E.2.1 0, 4, .inl a_sets)), (q 54, .inl (E.2.1 0, 7, .inl a_bestGiven)), (q 53, .inl (E.2.1 0, 7, .inl a_given))]) [0, 1, 2, 3, 4] rfl
          have hDl := hD.sub (ws' := [(h0, .inr (12, mG q i_taped i_size i_sort i_what i_at i_end i_worth i_faultKind i_faultPlace i_got i_worked (nI dl) i_isPlanned i_bestDone i_bestCost)), (q 51, .inl (E.2.1 0, 512, .inl a_least)), (q 55, .inl (E.2.1 0, 4, .inl a_sets)), (q 54, .inl (E.2.1 0, 7, .inl a_bestGiven)), (q 53, .inl (E.2.1 0, 7, .inl a_given))]) [0, 1, 2, 3, 4] (by decide) rfl
          refine lm_bits E h0 q i_taped i_size i_sort i_what i_at i_end i_worth i_faultKind i_faultPlace i_got i_worked i_isPlanned i_bestDone i_bestCost dl (n_171 + pc7 w_175) x_186 2 ([(q 51, .inl (E.2.1 0, 512, .inl a_least)), (q 55, .inl (E.2.1 0, 4, .inl a_sets)), (q 54, .inl (E.2.1 0, 7, .inl a_bestGiven)), (q 53, .inl (E.2.1 0, 7, .inl a_given))]) hx hb hml hown hts hkn hst hA  (fun n_188 H locs ls hm hP hD hS hl => ?_) (w_175 + 1) w_175 n_171 _ _ _ (Nat.lt_succ_self _) (by omega) rfl hPl hDl hS (lv_sub hl [3, 4, 1, 2, 0] rfl)
          have hP : va_P E.1 vwCl [(h0, .inr (12, mG q i_taped i_size i_sort i_what i_at i_end i_worth i_faultKind i_faultPlace i_got i_worked (nI dl) i_isPlanned i_bestDone i_bestCost)), (q 51, .inl (E.2.1 0, 512, .inl a_least)), (q 55, .inl (E.2.1 0, 4, .inl a_sets)), (q 54, .inl (E.2.1 0, 7, .inl a_bestGiven)), (q 53, .inl (E.2.1 0, 7, .inl a_given))] H := hP
          have hD : va_D A [(h0, .inr (12, mG q i_taped i_size i_sort i_what i_at i_end i_worth i_faultKind i_faultPlace i_got i_worked (nI dl) i_isPlanned i_bestDone i_bestCost)), (q 51, .inl (E.2.1 0, 512, .inl a_least)), (q 55, .inl (E.2.1 0, 4, .inl a_sets)), (q 54, .inl (E.2.1 0, 7, .inl a_bestGiven)), (q 53, .inl (E.2.1 0, 7, .inl a_given))] := hD
          have hm2 := hm
          refine lv_iinc (v := 3) (lv' := [(4, .int 3), (0, .ref h0), (2, .int (nI n_188)), (3, .int x_186)]) hx hb dX12_give_96 hl (k := 3) rfl (by decide) (by decide) rfl (fun ls hl => ?_)
          refine lv_goto (tgt := 15) hx hb dX12_give_99 (by decide) ?_
          refine lv_iload hx hb dX12_give_15 (lv_at hl 0 rfl) ?_
          refine lv_iconst (v := 4) hx hb dX12_give_17 (by decide) ?_
          refine lv_icmp_ge (tgt := 102) hx hb dX12_give_18 (by decide) (fun c9 => absurd c9 (by decide)) (fun _ => ?_)
          refine lv_aload_n hx hb dX12_give_21 rfl (lv_at hl 1 rfl) ?_
          refine va_get (D := E.1) (ci := 12) (v := .ref (q 51)) (C := RX12) (T := TX12) (N := 59) hx hb hts inX12 hown hK hP 0 rfl rfl 51 (by decide) fl130 (fun _ h9 => h9) rfl dX12_give_22 ?_
          refine lv_sipush (v := 128) hx hb dX12_give_25 (by decide) ?_
          refine lv_iload hx hb dX12_give_28 (lv_at hl 0 rfl) ?_
          refine lv_imul hx hb dX12_give_30 ?_
          refine lv_topi (fun x_189 ex_189 => ?_)
          obtain rfl : x_189 = 384 := ex_189.trans (by decide +kernel)
          refine lv_aload_n hx hb dX12_give_31 rfl (lv_at hl 1 rfl) ?_
          refine va_get (D := E.1) (ci := 12) (v := .ref (q 55)) (C := RX12) (T := TX12) (N := 59) hx hb hts inX12 hown hK hP 0 rfl rfl 55 (by decide) fl142 (fun _ h9 => h9) rfl dX12_give_32 ?_
          refine lv_iload hx hb dX12_give_35 (lv_at hl 0 rfl) ?_
          refine va_iald hx hb hK hP 2 0 rfl rfl (show vp_in 3 4 from by unfold vp_in; decide) dX12_give_37 ?_
          refine lv_topi (fun x_190 ex_190 => ?_)
          have hv_191 : inR x_190 0 127 = true := by rw [ex_190]; exact hI_sets _ (vin_cl (show vp_in 3 4 from by unfold vp_in; decide))
          obtain ⟨w_192, hw_193, ew_194⟩ := inR_nI (n := 127) (by decide) hv_191
          subst ew_194
          have hw39 : w_192 = setOf gp 3 dl := by rw [hn9]; exact nI_inj (by omega) (s128 gp 3 (by decide)) (ex_190.trans (by rw [show Int32.toNatClampNeg 3 = 3 from by decide]; exact hSt 3 (by decide)))
          refine lv_iadd hx hb dX12_give_38 ?_
          refine lv_topi (fun x_195 ex_195 => ?_)
          obtain rfl : x_195 = nI (384 + w_192) := ex_195.trans (nI_add 384 w_192)
          have hi_196 : vp_in (nI (384 + w_192)) 512 := vp_in_nI (by omega) (by decide)
          refine va_iald hx hb hK hP 1 0 rfl rfl hi_196 dX12_give_39 ?_
          refine lv_topi (fun x_197 ex_197 => ?_)
          refine lv_iconst (v := (-1)) hx hb dX12_give_40 (by decide) ?_
          refine lv_icmp_ne (tgt := 45) hx hb dX12_give_41 (by decide) (fun c_198 => ?_) (fun c_198 => ?_)
          · have hn39 : ¬ a_least (128 * 3 + w_192) = -1 := fun q9 => c_198 (ex_197.trans (by rw [nI_clamp (by omega)]; exact q9))
            have hk3 : FF 3 (setOf gp 3 dl) := by rw [← hw39]; exact (hKm 3 (by decide) w_192 (by omega)).1.mp hn39
            refine lv_iload_n hx hb dX12_give_45 rfl (lv_at hl 3 rfl) ?_
            refine lv_aload_n hx hb dX12_give_46 rfl (lv_at hl 1 rfl) ?_
            refine va_get (D := E.1) (ci := 12) (v := .ref (q 51)) (C := RX12) (T := TX12) (N := 59) hx hb hts inX12 hown hK hP 0 rfl rfl 51 (by decide) fl130 (fun _ h9 => h9) rfl dX12_give_47 ?_
            refine lv_sipush (v := 128) hx hb dX12_give_50 (by decide) ?_
            refine lv_iload hx hb dX12_give_53 (lv_at hl 0 rfl) ?_
            refine lv_imul hx hb dX12_give_55 ?_
            refine lv_topi (fun x_199 ex_199 => ?_)
            obtain rfl : x_199 = 384 := ex_199.trans (by decide +kernel)
            refine lv_aload_n hx hb dX12_give_56 rfl (lv_at hl 1 rfl) ?_
            refine va_get (D := E.1) (ci := 12) (v := .ref (q 55)) (C := RX12) (T := TX12) (N := 59) hx hb hts inX12 hown hK hP 0 rfl rfl 55 (by decide) fl142 (fun _ h9 => h9) rfl dX12_give_57 ?_
            refine lv_iload hx hb dX12_give_60 (lv_at hl 0 rfl) ?_
            refine va_iald hx hb hK hP 2 0 rfl rfl (show vp_in 3 4 from by unfold vp_in; decide) dX12_give_62 ?_
            refine lv_topi (fun x_200 ex_200 => ?_)
            obtain rfl : x_200 = nI w_192 := ex_200.trans ex_190.symm
            refine lv_iadd hx hb dX12_give_63 ?_
            refine lv_topi (fun x_201 ex_201 => ?_)
            obtain rfl : x_201 = nI (384 + w_192) := ex_201.trans (nI_add 384 w_192)
            refine va_iald hx hb hK hP 1 0 rfl rfl hi_196 dX12_give_64 ?_
            refine lv_topi (fun x_202 ex_202 => ?_)
            refine lv_iadd hx hb dX12_give_65 ?_
            refine lv_topi (fun x_203 ex_203 => ?_)
            have hc39 := cost_nx (c := 3) (c2 := 4) hc29 (x := x_202) (co2 := x_203) ((by rw [ex_202, nI_clamp (by omega)]; exact (hKm 3 (by decide) w_192 (by omega)).2 hn39 : x_202.toInt = CC 3 w_192).trans (by rw [hw39])) (hCb 3 (by decide) _ hk3) ex_203 rfl (by decide)
            refine lv_istore_n (lv' := [(3, .int x_203), (4, .int 3), (0, .ref h0), (2, .int (nI n_188))]) hx hb dX12_give_66 rfl hl (by decide) rfl (fun ls hl => ?_)
            refine lv_aload_n hx hb dX12_give_67 rfl (lv_at hl 2 rfl) ?_
            refine va_get (D := E.1) (ci := 12) (v := .ref (q 55)) (C := RX12) (T := TX12) (N := 59) hx hb hts inX12 hown hK hP 0 rfl rfl 55 (by decide) fl142 (fun _ h9 => h9) rfl dX12_give_68 ?_
            refine lv_iload hx hb dX12_give_71 (lv_at hl 1 rfl) ?_
            refine va_iald hx hb hK hP 2 0 rfl rfl (show vp_in 3 4 from by unfold vp_in; decide) dX12_give_73 ?_
            refine lv_topi (fun x_204 ex_204 => ?_)
            obtain rfl : x_204 = nI w_192 := ex_204.trans ex_190.symm
            refine lv_istore (lv' := [(5, .int (nI w_192)), (3, .int x_203), (4, .int 3), (0, .ref h0), (2, .int (nI n_188))]) hx hb dX12_give_74 hl (by decide) rfl (fun ls hl => ?_)
            have hPl := hP.sub (ws' := [(h0, .inr (12, mG q i_taped i_size i_sort i_what i_at i_end i_worth i_faultKind i_faultPlace i_got i_worked (nI dl) i_isPlanned i_bestDone i_bestCost)), (q 51, .inl (E.2.1 0, 512, .inl a_least)), (q 55, .inl (E.2.1 0, 4, .inl a_sets)), (q 54, .inl (E.2.1 0, 7, .inl a_bestGiven)), (q 53, .inl (E.2.1 0, 7, .inl a_given))]) [0, 1, 2, 3, 4] rfl
            have hDl := hD.sub (ws' := [(h0, .inr (12, mG q i_taped i_size i_sort i_what i_at i_end i_worth i_faultKind i_faultPlace i_got i_worked (nI dl) i_isPlanned i_bestDone i_bestCost)), (q 51, .inl (E.2.1 0, 512, .inl a_least)), (q 55, .inl (E.2.1 0, 4, .inl a_sets)), (q 54, .inl (E.2.1 0, 7, .inl a_bestGiven)), (q 53, .inl (E.2.1 0, 7, .inl a_given))]) [0, 1, 2, 3, 4] (by decide) rfl
            refine lm_bits E h0 q i_taped i_size i_sort i_what i_at i_end i_worth i_faultKind i_faultPlace i_got i_worked i_isPlanned i_bestDone i_bestCost dl (n_188 + pc7 w_192) x_203 3 ([(q 51, .inl (E.2.1 0, 512, .inl a_least)), (q 55, .inl (E.2.1 0, 4, .inl a_sets)), (q 54, .inl (E.2.1 0, 7, .inl a_bestGiven)), (q 53, .inl (E.2.1 0, 7, .inl a_given))]) hx hb hml hown hts hkn hst hA  (fun n_205 H locs ls hm hP hD hS hl => ?_) (w_192 + 1) w_192 n_188 _ _ _ (Nat.lt_succ_self _) (by omega) rfl hPl hDl hS (lv_sub hl [3, 4, 1, 2, 0] rfl)
            have hP : va_P E.1 vwCl [(h0, .inr (12, mG q i_taped i_size i_sort i_what i_at i_end i_worth i_faultKind i_faultPlace i_got i_worked (nI dl) i_isPlanned i_bestDone i_bestCost)), (q 51, .inl (E.2.1 0, 512, .inl a_least)), (q 55, .inl (E.2.1 0, 4, .inl a_sets)), (q 54, .inl (E.2.1 0, 7, .inl a_bestGiven)), (q 53, .inl (E.2.1 0, 7, .inl a_given))] H := hP
            have hD : va_D A [(h0, .inr (12, mG q i_taped i_size i_sort i_what i_at i_end i_worth i_faultKind i_faultPlace i_got i_worked (nI dl) i_isPlanned i_bestDone i_bestCost)), (q 51, .inl (E.2.1 0, 512, .inl a_least)), (q 55, .inl (E.2.1 0, 4, .inl a_sets)), (q 54, .inl (E.2.1 0, 7, .inl a_bestGiven)), (q 53, .inl (E.2.1 0, 7, .inl a_given))] := hD
            have hm3 := hm
            refine lv_iinc (v := 4) (lv' := [(4, .int 4), (0, .ref h0), (2, .int (nI n_205)), (3, .int x_203)]) hx hb dX12_give_96 hl (k := 3) rfl (by decide) (by decide) rfl (fun ls hl => ?_)
            refine lv_goto (tgt := 15) hx hb dX12_give_99 (by decide) ?_
            refine lv_iload hx hb dX12_give_15 (lv_at hl 0 rfl) ?_
            refine lv_iconst (v := 4) hx hb dX12_give_17 (by decide) ?_
            refine lv_icmp_ge (tgt := 102) hx hb dX12_give_18 (by decide) (fun _ => ?_) (fun c9 => absurd c9 (by decide))
            have p70 := pc7_le w_141 (by omega)
            have p71 := pc7_le w_158 (by omega)
            have p72 := pc7_le w_175 (by omega)
            have p73 := pc7_le w_192 (by omega)
            have hcn9 : n_205 = cnt gp dl := by rw [← pc_sum gp dl hdl, ← hw09, ← hw19, ← hw29, ← hw39]; omega
            refine lv_iload_n hx hb dX12_give_102 rfl (lv_at hl 2 rfl) ?_
            refine lv_aload_n hx hb dX12_give_103 rfl (lv_at hl 1 rfl) ?_
            refine va_get (D := E.1) (ci := 12) (v := .int i_bestDone) (C := RX12) (T := TX12) (N := 59) hx hb hts inX12 hown hK hP 0 rfl rfl 57 (by decide) fl300 (fun _ h9 => h9) rfl dX12_give_104 ?_
            refine lv_icmp_lt (tgt := 126) hx hb dX12_give_107 (by decide) (fun c_206 => ?_) (fun c_206 => ?_)
            · have hP9 := hP.sub (ws' := [(h0, .inr (12, mG q i_taped i_size i_sort i_what i_at i_end i_worth i_faultKind i_faultPlace i_got i_worked (nI dl) i_isPlanned i_bestDone i_bestCost)), (q 51, .inl (E.2.1 0, 512, .inl a_least)), (q 55, .inl (E.2.1 0, 4, .inl a_sets)), (q 54, .inl (E.2.1 0, 7, .inl a_bestGiven)), (q 53, .inl (E.2.1 0, 7, .inl a_given))]) [0, 1, 2, 3, 4] rfl
              have hD9 := hD.sub (ws' := [(h0, .inr (12, mG q i_taped i_size i_sort i_what i_at i_end i_worth i_faultKind i_faultPlace i_got i_worked (nI dl) i_isPlanned i_bestDone i_bestCost)), (q 51, .inl (E.2.1 0, 512, .inl a_least)), (q 55, .inl (E.2.1 0, 4, .inl a_sets)), (q 54, .inl (E.2.1 0, 7, .inl a_bestGiven)), (q 53, .inl (E.2.1 0, 7, .inl a_given))]) [0, 1, 2, 3, 4] (by decide) rfl
              exact W.vret hx hb hr (fun t ht hW => ⟨⟨(i_bestDone, i_bestCost, a_sets, a_bestGiven, a_given), rfl, (BG_post hn9 (BG_old hdl hp9 (Or.inl (by rw [← hcn9]; exact gx_lt (by omega) c_206)) hB9)), hI_sets, (fun i hi => rfl), (fun k hk => rfl), by rw [ht]; exact hP9, hD9⟩, hS.F ht⟩) hS.2.2 dX12_give_126
            · refine lv_iload_n hx hb dX12_give_110 rfl (lv_at hl 2 rfl) ?_
              refine lv_aload_n hx hb dX12_give_111 rfl (lv_at hl 1 rfl) ?_
              refine va_get (D := E.1) (ci := 12) (v := .int i_bestDone) (C := RX12) (T := TX12) (N := 59) hx hb hts inX12 hown hK hP 0 rfl rfl 57 (by decide) fl300 (fun _ h9 => h9) rfl dX12_give_112 ?_
              refine lv_icmp_ne (tgt := 127) hx hb dX12_give_115 (by decide) (fun c_207 => ?_) (fun c_207 => ?_)
              · refine lv_aload_n hx hb dX12_give_127 rfl (lv_at hl 1 rfl) ?_
                refine lv_iload_n hx hb dX12_give_128 rfl (lv_at hl 2 rfl) ?_
                refine va_put (D := E.1) (ci := 12) (v := .int (nI n_205)) (ty := .int) (C := RX12) (T := TX12) (N := 59) hx hb hts inX12 tyX12 tyX12_ok nmX12 hown hK hP hD hS 0 rfl rfl 57 (by decide) fl300 (fun _ h9 => h9) rfl (by decide +kernel) rfl rfl (Nat.le_of_ble_eq_true rfl) dX12_give_129 (fun H locs hP hD hS => ?_)
                have hP : va_P E.1 vwCl [(h0, .inr (12, mG q i_taped i_size i_sort i_what i_at i_end i_worth i_faultKind i_faultPlace i_got i_worked (nI dl) i_isPlanned (nI n_205) i_bestCost)), (q 51, .inl (E.2.1 0, 512, .inl a_least)), (q 55, .inl (E.2.1 0, 4, .inl a_sets)), (q 54, .inl (E.2.1 0, 7, .inl a_bestGiven)), (q 53, .inl (E.2.1 0, 7, .inl a_given))] H := hP
                have hD : va_D A [(h0, .inr (12, mG q i_taped i_size i_sort i_what i_at i_end i_worth i_faultKind i_faultPlace i_got i_worked (nI dl) i_isPlanned (nI n_205) i_bestCost)), (q 51, .inl (E.2.1 0, 512, .inl a_least)), (q 55, .inl (E.2.1 0, 4, .inl a_sets)), (q 54, .inl (E.2.1 0, 7, .inl a_bestGiven)), (q 53, .inl (E.2.1 0, 7, .inl a_given))] := hD
                refine lv_aload_n hx hb dX12_give_132 rfl (lv_at hl 1 rfl) ?_
                refine lv_iload_n hx hb dX12_give_133 rfl (lv_at hl 3 rfl) ?_
                refine va_put (D := E.1) (ci := 12) (v := .int x_203) (ty := .int) (C := RX12) (T := TX12) (N := 59) hx hb hts inX12 tyX12 tyX12_ok nmX12 hown hK hP hD hS 0 rfl rfl 58 (by decide) fl303 (fun _ h9 => h9) rfl (by decide +kernel) rfl rfl (Nat.le_of_ble_eq_true rfl) dX12_give_134 (fun H locs hP hD hS => ?_)
                have hP : va_P E.1 vwCl [(h0, .inr (12, mG q i_taped i_size i_sort i_what i_at i_end i_worth i_faultKind i_faultPlace i_got i_worked (nI dl) i_isPlanned (nI n_205) x_203)), (q 51, .inl (E.2.1 0, 512, .inl a_least)), (q 55, .inl (E.2.1 0, 4, .inl a_sets)), (q 54, .inl (E.2.1 0, 7, .inl a_bestGiven)), (q 53, .inl (E.2.1 0, 7, .inl a_given))] H := hP
                have hD : va_D A [(h0, .inr (12, mG q i_taped i_size i_sort i_what i_at i_end i_worth i_faultKind i_faultPlace i_got i_worked (nI dl) i_isPlanned (nI n_205) x_203)), (q 51, .inl (E.2.1 0, 512, .inl a_least)), (q 55, .inl (E.2.1 0, 4, .inl a_sets)), (q 54, .inl (E.2.1 0, 7, .inl a_bestGiven)), (q 53, .inl (E.2.1 0, 7, .inl a_given))] := hD
                refine lv_iconst (v := 0) hx hb dX12_give_137 (by decide) ?_
                refine lv_istore (lv' := [(4, .int 0), (0, .ref h0), (2, .int (nI n_205)), (3, .int x_203)]) hx hb dX12_give_138 hl (by decide) rfl (fun ls hl => ?_)
                have hPl := hP.sub (ws' := [(h0, .inr (12, mG q i_taped i_size i_sort i_what i_at i_end i_worth i_faultKind i_faultPlace i_got i_worked (nI dl) i_isPlanned (nI n_205) x_203)), (q 53, .inl (E.2.1 0, 7, .inl a_given)), (q 54, .inl (E.2.1 0, 7, .inl a_bestGiven)), (q 51, .inl (E.2.1 0, 512, .inl a_least)), (q 55, .inl (E.2.1 0, 4, .inl a_sets))]) [0, 4, 3, 1, 2] rfl
                have hDl := hD.sub (ws' := [(h0, .inr (12, mG q i_taped i_size i_sort i_what i_at i_end i_worth i_faultKind i_faultPlace i_got i_worked (nI dl) i_isPlanned (nI n_205) x_203)), (q 53, .inl (E.2.1 0, 7, .inl a_given)), (q 54, .inl (E.2.1 0, 7, .inl a_bestGiven)), (q 51, .inl (E.2.1 0, 512, .inl a_least)), (q 55, .inl (E.2.1 0, 4, .inl a_sets))]) [0, 4, 3, 1, 2] (by decide) rfl
                refine lm_copy E h0 q i_taped i_size i_sort i_what i_at i_end i_worth i_faultKind i_faultPlace i_got i_worked i_isPlanned (nI n_205) x_203 dl a_given ([(q 51, .inl (E.2.1 0, 512, .inl a_least)), (q 55, .inl (E.2.1 0, 4, .inl a_sets))]) hx hb hml hown hts hkn hst hA (by omega) (fun n_208 H locs ls hcp hP hD hS hl => ?_) 9 0 a_bestGiven _ _ _ (by omega) (by omega) (fun j hj => absurd hj (Nat.not_lt_zero j)) hPl hDl hS (lv_sub hl [1, 0] rfl)
                have hP : va_P E.1 vwCl [(h0, .inr (12, mG q i_taped i_size i_sort i_what i_at i_end i_worth i_faultKind i_faultPlace i_got i_worked (nI dl) i_isPlanned (nI n_205) x_203)), (q 53, .inl (E.2.1 0, 7, .inl a_given)), (q 54, .inl (E.2.1 0, 7, .inl n_208)), (q 51, .inl (E.2.1 0, 512, .inl a_least)), (q 55, .inl (E.2.1 0, 4, .inl a_sets))] H := hP
                have hD : va_D A [(h0, .inr (12, mG q i_taped i_size i_sort i_what i_at i_end i_worth i_faultKind i_faultPlace i_got i_worked (nI dl) i_isPlanned (nI n_205) x_203)), (q 53, .inl (E.2.1 0, 7, .inl a_given)), (q 54, .inl (E.2.1 0, 7, .inl n_208)), (q 51, .inl (E.2.1 0, 512, .inl a_least)), (q 55, .inl (E.2.1 0, 4, .inl a_sets))] := hD
                have hP9 := hP.sub (ws' := [(h0, .inr (12, mG q i_taped i_size i_sort i_what i_at i_end i_worth i_faultKind i_faultPlace i_got i_worked (nI dl) i_isPlanned (nI n_205) x_203)), (q 51, .inl (E.2.1 0, 512, .inl a_least)), (q 55, .inl (E.2.1 0, 4, .inl a_sets)), (q 54, .inl (E.2.1 0, 7, .inl n_208)), (q 53, .inl (E.2.1 0, 7, .inl a_given))]) [0, 3, 4, 2, 1] rfl
                have hD9 := hD.sub (ws' := [(h0, .inr (12, mG q i_taped i_size i_sort i_what i_at i_end i_worth i_faultKind i_faultPlace i_got i_worked (nI dl) i_isPlanned (nI n_205) x_203)), (q 51, .inl (E.2.1 0, 512, .inl a_least)), (q 55, .inl (E.2.1 0, 4, .inl a_sets)), (q 54, .inl (E.2.1 0, 7, .inl n_208)), (q 53, .inl (E.2.1 0, 7, .inl a_given))]) [0, 3, 4, 2, 1] (by decide) rfl
                exact W.vret hx hb hr (fun t ht hW => ⟨⟨(nI n_205, x_203, a_sets, n_208, a_given), rfl, (BG_post hn9 (BG_new hdl hp9 (F4_all hk0 hk1 hk2 hk3) (Or.inl (by rw [← hcn9]; exact gx_gt (by omega) c_206 c_207)) (by rw [← hcn9]) hc39.1 (fun j hj => (hcp j hj).trans (hGv j (by omega))) hB9)), hI_sets, (fun i hi => rfl), (fun k hk => rfl), by rw [ht]; exact hP9, hD9⟩, hS.F ht⟩) hS.2.2 dX12_give_169
              · refine lv_iload_n hx hb dX12_give_118 rfl (lv_at hl 3 rfl) ?_
                refine lv_aload_n hx hb dX12_give_119 rfl (lv_at hl 1 rfl) ?_
                refine va_get (D := E.1) (ci := 12) (v := .int i_bestCost) (C := RX12) (T := TX12) (N := 59) hx hb hts inX12 hown hK hP 0 rfl rfl 58 (by decide) fl303 (fun _ h9 => h9) rfl dX12_give_120 ?_
                refine lv_icmp_lt (tgt := 127) hx hb dX12_give_123 (by decide) (fun c_209 => ?_) (fun c_209 => ?_)
                · refine lv_aload_n hx hb dX12_give_127 rfl (lv_at hl 1 rfl) ?_
                  refine lv_iload_n hx hb dX12_give_128 rfl (lv_at hl 2 rfl) ?_
                  refine va_put (D := E.1) (ci := 12) (v := .int (nI n_205)) (ty := .int) (C := RX12) (T := TX12) (N := 59) hx hb hts inX12 tyX12 tyX12_ok nmX12 hown hK hP hD hS 0 rfl rfl 57 (by decide) fl300 (fun _ h9 => h9) rfl (by decide +kernel) rfl rfl (Nat.le_of_ble_eq_true rfl) dX12_give_129 (fun H locs hP hD hS => ?_)
                  have hP : va_P E.1 vwCl [(h0, .inr (12, mG q i_taped i_size i_sort i_what i_at i_end i_worth i_faultKind i_faultPlace i_got i_worked (nI dl) i_isPlanned (nI n_205) i_bestCost)), (q 51, .inl (E.2.1 0, 512, .inl a_least)), (q 55, .inl (E.2.1 0, 4, .inl a_sets)), (q 54, .inl (E.2.1 0, 7, .inl a_bestGiven)), (q 53, .inl (E.2.1 0, 7, .inl a_given))] H := hP
                  have hD : va_D A [(h0, .inr (12, mG q i_taped i_size i_sort i_what i_at i_end i_worth i_faultKind i_faultPlace i_got i_worked (nI dl) i_isPlanned (nI n_205) i_bestCost)), (q 51, .inl (E.2.1 0, 512, .inl a_least)), (q 55, .inl (E.2.1 0, 4, .inl a_sets)), (q 54, .inl (E.2.1 0, 7, .inl a_bestGiven)), (q 53, .inl (E.2.1 0, 7, .inl a_given))] := hD
                  refine lv_aload_n hx hb dX12_give_132 rfl (lv_at hl 1 rfl) ?_
                  refine lv_iload_n hx hb dX12_give_133 rfl (lv_at hl 3 rfl) ?_
                  refine va_put (D := E.1) (ci := 12) (v := .int x_203) (ty := .int) (C := RX12) (T := TX12) (N := 59) hx hb hts inX12 tyX12 tyX12_ok nmX12 hown hK hP hD hS 0 rfl rfl 58 (by decide) fl303 (fun _ h9 => h9) rfl (by decide +kernel) rfl rfl (Nat.le_of_ble_eq_true rfl) dX12_give_134 (fun H locs hP hD hS => ?_)
                  have hP : va_P E.1 vwCl [(h0, .inr (12, mG q i_taped i_size i_sort i_what i_at i_end i_worth i_faultKind i_faultPlace i_got i_worked (nI dl) i_isPlanned (nI n_205) x_203)), (q 51, .inl (E.2.1 0, 512, .inl a_least)), (q 55, .inl (E.2.1 0, 4, .inl a_sets)), (q 54, .inl (E.2.1 0, 7, .inl a_bestGiven)), (q 53, .inl (E.2.1 0, 7, .inl a_given))] H := hP
                  have hD : va_D A [(h0, .inr (12, mG q i_taped i_size i_sort i_what i_at i_end i_worth i_faultKind i_faultPlace i_got i_worked (nI dl) i_isPlanned (nI n_205) x_203)), (q 51, .inl (E.2.1 0, 512, .inl a_least)), (q 55, .inl (E.2.1 0, 4, .inl a_sets)), (q 54, .inl (E.2.1 0, 7, .inl a_bestGiven)), (q 53, .inl (E.2.1 0, 7, .inl a_given))] := hD
                  refine lv_iconst (v := 0) hx hb dX12_give_137 (by decide) ?_
                  refine lv_istore (lv' := [(4, .int 0), (0, .ref h0), (2, .int (nI n_205)), (3, .int x_203)]) hx hb dX12_give_138 hl (by decide) rfl (fun ls hl => ?_)
                  have hPl := hP.sub (ws' := [(h0, .inr (12, mG q i_taped i_size i_sort i_what i_at i_end i_worth i_faultKind i_faultPlace i_got i_worked (nI dl) i_isPlanned (nI n_205) x_203)), (q 53, .inl (E.2.1 0, 7, .inl a_given)), (q 54, .inl (E.2.1 0, 7, .inl a_bestGiven)), (q 51, .inl (E.2.1 0, 512, .inl a_least)), (q 55, .inl (E.2.1 0, 4, .inl a_sets))]) [0, 4, 3, 1, 2] rfl
                  have hDl := hD.sub (ws' := [(h0, .inr (12, mG q i_taped i_size i_sort i_what i_at i_end i_worth i_faultKind i_faultPlace i_got i_worked (nI dl) i_isPlanned (nI n_205) x_203)), (q 53, .inl (E.2.1 0, 7, .inl a_given)), (q 54, .inl (E.2.1 0, 7, .inl a_bestGiven)), (q 51, .inl (E.2.1 0, 512, .inl a_least)), (q 55, .inl (E.2.1 0, 4, .inl a_sets))]) [0, 4, 3, 1, 2] (by decide) rfl
                  refine lm_copy E h0 q i_taped i_size i_sort i_what i_at i_end i_worth i_faultKind i_faultPlace i_got i_worked i_isPlanned (nI n_205) x_203 dl a_given ([(q 51, .inl (E.2.1 0, 512, .inl a_least)), (q 55, .inl (E.2.1 0, 4, .inl a_sets))]) hx hb hml hown hts hkn hst hA (by omega) (fun n_210 H locs ls hcp hP hD hS hl => ?_) 9 0 a_bestGiven _ _ _ (by omega) (by omega) (fun j hj => absurd hj (Nat.not_lt_zero j)) hPl hDl hS (lv_sub hl [1, 0] rfl)
                  have hP : va_P E.1 vwCl [(h0, .inr (12, mG q i_taped i_size i_sort i_what i_at i_end i_worth i_faultKind i_faultPlace i_got i_worked (nI dl) i_isPlanned (nI n_205) x_203)), (q 53, .inl (E.2.1 0, 7, .inl a_given)), (q 54, .inl (E.2.1 0, 7, .inl n_210)), (q 51, .inl (E.2.1 0, 512, .inl a_least)), (q 55, .inl (E.2.1 0, 4, .inl a_sets))] H := hP
                  have hD : va_D A [(h0, .inr (12, mG q i_taped i_size i_sort i_what i_at i_end i_worth i_faultKind i_faultPlace i_got i_worked (nI dl) i_isPlanned (nI n_205) x_203)), (q 53, .inl (E.2.1 0, 7, .inl a_given)), (q 54, .inl (E.2.1 0, 7, .inl n_210)), (q 51, .inl (E.2.1 0, 512, .inl a_least)), (q 55, .inl (E.2.1 0, 4, .inl a_sets))] := hD
                  have hP9 := hP.sub (ws' := [(h0, .inr (12, mG q i_taped i_size i_sort i_what i_at i_end i_worth i_faultKind i_faultPlace i_got i_worked (nI dl) i_isPlanned (nI n_205) x_203)), (q 51, .inl (E.2.1 0, 512, .inl a_least)), (q 55, .inl (E.2.1 0, 4, .inl a_sets)), (q 54, .inl (E.2.1 0, 7, .inl n_210)), (q 53, .inl (E.2.1 0, 7, .inl a_given))]) [0, 3, 4, 2, 1] rfl
                  have hD9 := hD.sub (ws' := [(h0, .inr (12, mG q i_taped i_size i_sort i_what i_at i_end i_worth i_faultKind i_faultPlace i_got i_worked (nI dl) i_isPlanned (nI n_205) x_203)), (q 51, .inl (E.2.1 0, 512, .inl a_least)), (q 55, .inl (E.2.1 0, 4, .inl a_sets)), (q 54, .inl (E.2.1 0, 7, .inl n_210)), (q 53, .inl (E.2.1 0, 7, .inl a_given))]) [0, 3, 4, 2, 1] (by decide) rfl
                  exact W.vret hx hb hr (fun t ht hW => ⟨⟨(nI n_205, x_203, a_sets, n_210, a_given), rfl, (BG_post hn9 (BG_new hdl hp9 (F4_all hk0 hk1 hk2 hk3) (Or.inr ⟨(by rw [← hcn9]; exact (gx_eq (by omega) c_207).symm), (by rw [← hc39.1]; exact (ii_lt _ _).mp c_209)⟩) (by rw [← hcn9]) hc39.1 (fun j hj => (hcp j hj).trans (hGv j (by omega))) hB9)), hI_sets, (fun i hi => rfl), (fun k hk => rfl), by rw [ht]; exact hP9, hD9⟩, hS.F ht⟩) hS.2.2 dX12_give_169
                · have hP9 := hP.sub (ws' := [(h0, .inr (12, mG q i_taped i_size i_sort i_what i_at i_end i_worth i_faultKind i_faultPlace i_got i_worked (nI dl) i_isPlanned i_bestDone i_bestCost)), (q 51, .inl (E.2.1 0, 512, .inl a_least)), (q 55, .inl (E.2.1 0, 4, .inl a_sets)), (q 54, .inl (E.2.1 0, 7, .inl a_bestGiven)), (q 53, .inl (E.2.1 0, 7, .inl a_given))]) [0, 1, 2, 3, 4] rfl
                  have hD9 := hD.sub (ws' := [(h0, .inr (12, mG q i_taped i_size i_sort i_what i_at i_end i_worth i_faultKind i_faultPlace i_got i_worked (nI dl) i_isPlanned i_bestDone i_bestCost)), (q 51, .inl (E.2.1 0, 512, .inl a_least)), (q 55, .inl (E.2.1 0, 4, .inl a_sets)), (q 54, .inl (E.2.1 0, 7, .inl a_bestGiven)), (q 53, .inl (E.2.1 0, 7, .inl a_given))]) [0, 1, 2, 3, 4] (by decide) rfl
                  exact W.vret hx hb hr (fun t ht hW => ⟨⟨(i_bestDone, i_bestCost, a_sets, a_bestGiven, a_given), rfl, (BG_post hn9 (BG_old hdl hp9 (Or.inr ⟨(by rw [← hcn9]; exact gx_eq (by omega) c_207), (by rw [← hc39.1]; exact gx_le c_209)⟩) hB9)), hI_sets, (fun i hi => rfl), (fun k hk => rfl), by rw [ht]; exact hP9, hD9⟩, hS.F ht⟩) hS.2.2 dX12_give_126
          · have hP9 := hP.sub (ws' := [(h0, .inr (12, mG q i_taped i_size i_sort i_what i_at i_end i_worth i_faultKind i_faultPlace i_got i_worked (nI dl) i_isPlanned i_bestDone i_bestCost)), (q 51, .inl (E.2.1 0, 512, .inl a_least)), (q 55, .inl (E.2.1 0, 4, .inl a_sets)), (q 54, .inl (E.2.1 0, 7, .inl a_bestGiven)), (q 53, .inl (E.2.1 0, 7, .inl a_given))]) [0, 1, 2, 3, 4] rfl
            have hD9 := hD.sub (ws' := [(h0, .inr (12, mG q i_taped i_size i_sort i_what i_at i_end i_worth i_faultKind i_faultPlace i_got i_worked (nI dl) i_isPlanned i_bestDone i_bestCost)), (q 51, .inl (E.2.1 0, 512, .inl a_least)), (q 55, .inl (E.2.1 0, 4, .inl a_sets)), (q 54, .inl (E.2.1 0, 7, .inl a_bestGiven)), (q 53, .inl (E.2.1 0, 7, .inl a_given))]) [0, 1, 2, 3, 4] (by decide) rfl
            exact W.vret hx hb hr (fun t ht hW => ⟨⟨(i_bestDone, i_bestCost, a_sets, a_bestGiven, a_given), rfl, (BG_post hn9 (BG_inf hp9 (c := 3) (by decide) (fun q9 => absurd ((hKm 3 (by decide) w_192 (by omega)).1.mpr (by rw [hw39]; exact q9)) (fun r9 => r9 (by rw [← nI_clamp (n := 128 * 3 + w_192) (by omega)]; exact ex_197.symm.trans c_198))) hB9)), hI_sets, (fun i hi => rfl), (fun k hk => rfl), by rw [ht]; exact hP9, hD9⟩, hS.F ht⟩) hS.2.2 dX12_give_44
        · have hP9 := hP.sub (ws' := [(h0, .inr (12, mG q i_taped i_size i_sort i_what i_at i_end i_worth i_faultKind i_faultPlace i_got i_worked (nI dl) i_isPlanned i_bestDone i_bestCost)), (q 51, .inl (E.2.1 0, 512, .inl a_least)), (q 55, .inl (E.2.1 0, 4, .inl a_sets)), (q 54, .inl (E.2.1 0, 7, .inl a_bestGiven)), (q 53, .inl (E.2.1 0, 7, .inl a_given))]) [0, 1, 2, 3, 4] rfl
          have hD9 := hD.sub (ws' := [(h0, .inr (12, mG q i_taped i_size i_sort i_what i_at i_end i_worth i_faultKind i_faultPlace i_got i_worked (nI dl) i_isPlanned i_bestDone i_bestCost)), (q 51, .inl (E.2.1 0, 512, .inl a_least)), (q 55, .inl (E.2.1 0, 4, .inl a_sets)), (q 54, .inl (E.2.1 0, 7, .inl a_bestGiven)), (q 53, .inl (E.2.1 0, 7, .inl a_given))]) [0, 1, 2, 3, 4] (by decide) rfl
          exact W.vret hx hb hr (fun t ht hW => ⟨⟨(i_bestDone, i_bestCost, a_sets, a_bestGiven, a_given), rfl, (BG_post hn9 (BG_inf hp9 (c := 2) (by decide) (fun q9 => absurd ((hKm 2 (by decide) w_175 (by omega)).1.mpr (by rw [hw29]; exact q9)) (fun r9 => r9 (by rw [← nI_clamp (n := 128 * 2 + w_175) (by omega)]; exact ex_180.symm.trans c_181))) hB9)), hI_sets, (fun i hi => rfl), (fun k hk => rfl), by rw [ht]; exact hP9, hD9⟩, hS.F ht⟩) hS.2.2 dX12_give_44
      · have hP9 := hP.sub (ws' := [(h0, .inr (12, mG q i_taped i_size i_sort i_what i_at i_end i_worth i_faultKind i_faultPlace i_got i_worked (nI dl) i_isPlanned i_bestDone i_bestCost)), (q 51, .inl (E.2.1 0, 512, .inl a_least)), (q 55, .inl (E.2.1 0, 4, .inl a_sets)), (q 54, .inl (E.2.1 0, 7, .inl a_bestGiven)), (q 53, .inl (E.2.1 0, 7, .inl a_given))]) [0, 1, 2, 3, 4] rfl
        have hD9 := hD.sub (ws' := [(h0, .inr (12, mG q i_taped i_size i_sort i_what i_at i_end i_worth i_faultKind i_faultPlace i_got i_worked (nI dl) i_isPlanned i_bestDone i_bestCost)), (q 51, .inl (E.2.1 0, 512, .inl a_least)), (q 55, .inl (E.2.1 0, 4, .inl a_sets)), (q 54, .inl (E.2.1 0, 7, .inl a_bestGiven)), (q 53, .inl (E.2.1 0, 7, .inl a_given))]) [0, 1, 2, 3, 4] (by decide) rfl
        exact W.vret hx hb hr (fun t ht hW => ⟨⟨(i_bestDone, i_bestCost, a_sets, a_bestGiven, a_given), rfl, (BG_post hn9 (BG_inf hp9 (c := 1) (by decide) (fun q9 => absurd ((hKm 1 (by decide) w_158 (by omega)).1.mpr (by rw [hw19]; exact q9)) (fun r9 => r9 (by rw [← nI_clamp (n := 128 * 1 + w_158) (by omega)]; exact ex_163.symm.trans c_164))) hB9)), hI_sets, (fun i hi => rfl), (fun k hk => rfl), by rw [ht]; exact hP9, hD9⟩, hS.F ht⟩) hS.2.2 dX12_give_44
    · have hP9 := hP.sub (ws' := [(h0, .inr (12, mG q i_taped i_size i_sort i_what i_at i_end i_worth i_faultKind i_faultPlace i_got i_worked (nI dl) i_isPlanned i_bestDone i_bestCost)), (q 51, .inl (E.2.1 0, 512, .inl a_least)), (q 55, .inl (E.2.1 0, 4, .inl a_sets)), (q 54, .inl (E.2.1 0, 7, .inl a_bestGiven)), (q 53, .inl (E.2.1 0, 7, .inl a_given))]) [0, 1, 2, 3, 4] rfl
      have hD9 := hD.sub (ws' := [(h0, .inr (12, mG q i_taped i_size i_sort i_what i_at i_end i_worth i_faultKind i_faultPlace i_got i_worked (nI dl) i_isPlanned i_bestDone i_bestCost)), (q 51, .inl (E.2.1 0, 512, .inl a_least)), (q 55, .inl (E.2.1 0, 4, .inl a_sets)), (q 54, .inl (E.2.1 0, 7, .inl a_bestGiven)), (q 53, .inl (E.2.1 0, 7, .inl a_given))]) [0, 1, 2, 3, 4] (by decide) rfl
      exact W.vret hx hb hr (fun t ht hW => ⟨⟨(i_bestDone, i_bestCost, a_sets, a_bestGiven, a_given), rfl, (BG_post hn9 (BG_inf hp9 (c := 0) (by decide) (fun q9 => absurd ((hKm 0 (by decide) w_141 (by omega)).1.mpr (by rw [hw09]; exact q9)) (fun r9 => r9 (by rw [← nI_clamp (n := 128 * 0 + w_141) (by omega)]; exact ex_146.symm.trans c_147))) hB9)), hI_sets, (fun i hi => rfl), (fun k hk => rfl), by rw [ht]; exact hP9, hD9⟩, hS.F ht⟩) hS.2.2 dX12_give_44
set_option maxHeartbeats 4000000 in
set_option maxRecDepth 100000 in
theorem c_X12_give5 (l : Launch) (E : vE) (h0 : Nat) (q : Nat → Nat) (i_taped : Int32) (i_size : Int32) (i_sort : Int32) (i_what : Int32) (i_at : Int32) (i_end : Int32) (i_worth : Int32) (i_faultKind : Int32) (i_faultPlace : Int32) (i_got : Int32) (i_worked : Int32) (i_isPlanned : Int32) (i_bestDone : Int32) (i_bestCost : Int32) (dl : Nat) (FF : Nat → Nat → Prop) (CC : Nat → Nat → Int) (gp : Nat → Nat) (a_least : Nat → Int32) (a_sets : Nat → Int32) (a_bestGiven : Nat → Int32) (a_given : Nat → Int32) (sz : Nat) (hdl : dl ≤ 7) (hd : 5 ≤ dl) (hp : ∀ k : Nat, k < 5 → gp k ≤ 4) (hSt : ∀ i : Nat, i < 4 → a_sets i = nI (setOf gp i 5)) (hGv : ∀ k : Nat, k < 5 → a_given k = gI (gp k)) (hBG : BG FF CC dl (hN gp 5 * 5 ^ (dl - 5)) i_bestDone i_bestCost a_bestGiven) (hKm : ∀ i : Nat, i < 4 → ∀ z : Nat, z < 128 → ((¬ a_least (128 * i + z) = -1) ↔ FF i z) ∧ ((¬ a_least (128 * i + z) = -1) → (a_least (128 * i + z)).toInt = CC i z)) (hCb : ∀ i : Nat, i < 4 → ∀ z : Nat, FF i z → 0 ≤ CC i z ∧ CC i z ≤ 70000) (hI_sets : ∀ k : Nat, k < 4 → inR (a_sets k) 0 127 = true) : Met l yX12_give wsX12_give ({ frames := 2, cells := 0, slots := 0, locals := 50 }) (pcW E [.ref h0, .int 5] sz [(h0, .inr (12, mG q i_taped i_size i_sort i_what i_at i_end i_worth i_faultKind i_faultPlace i_got i_worked (nI dl) i_isPlanned i_bestDone i_bestCost)), (q 51, .inl (E.2.1 0, 512, .inl a_least)), (q 55, .inl (E.2.1 0, 4, .inl a_sets)), (q 54, .inl (E.2.1 0, 7, .inl a_bestGiven)), (q 53, .inl (E.2.1 0, 7, .inl a_given))]) (va_Qv (fun (u : Int32 × Int32 × (Nat → Int32) × (Nat → Int32) × (Nat → Int32)) => match u with | (bd2, bc2, b_sets, b_bestGiven, b_given) => BG FF CC dl ((hN gp 5 + 1) * 5 ^ (dl - 5)) bd2 bc2 b_bestGiven) (fun (u : Int32 × Int32 × (Nat → Int32) × (Nat → Int32) × (Nat → Int32)) (t : State) => match u with | (bd2, bc2, b_sets, b_bestGiven, b_given) => (∀ k : Nat, k < 4 → inR (b_sets k) 0 127 = true) ∧ (∀ i : Nat, i < 4 → b_sets i = a_sets i) ∧ (∀ k : Nat, k < 5 → b_given k = a_given k) ∧ wB E (va_A [(h0, .inr (12, mG q i_taped i_size i_sort i_what i_at i_end i_worth i_faultKind i_faultPlace i_got i_worked (nI dl) i_isPlanned i_bestDone i_bestCost)), (q 51, .inl (E.2.1 0, 512, .inl a_least)), (q 55, .inl (E.2.1 0, 4, .inl a_sets)), (q 54, .inl (E.2.1 0, 7, .inl a_bestGiven)), (q 53, .inl (E.2.1 0, 7, .inl a_given))] sz) [(h0, .inr (12, mG q i_taped i_size i_sort i_what i_at i_end i_worth i_faultKind i_faultPlace i_got i_worked (nI dl) i_isPlanned bd2 bc2)), (q 51, .inl (E.2.1 0, 512, .inl a_least)), (q 55, .inl (E.2.1 0, 4, .inl b_sets)), (q 54, .inl (E.2.1 0, 7, .inl b_bestGiven)), (q 53, .inl (E.2.1 0, 7, .inl b_given))] t) (va_A [(h0, .inr (12, mG q i_taped i_size i_sort i_what i_at i_end i_worth i_faultKind i_faultPlace i_got i_worked (nI dl) i_isPlanned i_bestDone i_bestCost)), (q 51, .inl (E.2.1 0, 512, .inl a_least)), (q 55, .inl (E.2.1 0, 4, .inl a_sets)), (q 54, .inl (E.2.1 0, 7, .inl a_bestGiven)), (q 53, .inl (E.2.1 0, 7, .inl a_given))] sz)) 0 0 (va_A [(h0, .inr (12, mG q i_taped i_size i_sort i_what i_at i_end i_worth i_faultKind i_faultPlace i_got i_worked (nI dl) i_isPlanned i_bestDone i_bestCost)), (q 51, .inl (E.2.1 0, 512, .inl a_least)), (q 55, .inl (E.2.1 0, 4, .inl a_sets)), (q 54, .inl (E.2.1 0, 7, .inl a_bestGiven)), (q 53, .inl (E.2.1 0, 7, .inl a_given))] sz) := by
  refine Met.ofW (cc := cX12_give) (maxL := 6) (ret := none) (by decide) rfl ?_
  intro p e s m args below meth c s₁ B hml hv
  obtain ⟨rfl, hsz, hP, hkn, hD0, hst⟩ := hv
  have hx := B.exec
  have hb := B.bytes
  have hr := B.returns
  have hts := atoms_spec (ws := wsX12_give) B.pre
  have hown : s.vm.findClass RX12 = some m.cls := findClass_of_methodNamed B.named
  have hlocks := B.notSynchronized
  subst hsz
  have hD := hD0.self (sz := s.heap.size)
  have hK := hkn.1
  have hAO := hkn.2.2.1
  generalize hAe : va_A [(h0, .inr (12, mG q i_taped i_size i_sort i_what i_at i_end i_worth i_faultKind i_faultPlace i_got i_worked (nI dl) i_isPlanned i_bestDone i_bestCost)), (q 51, .inl (E.2.1 0, 512, .inl a_least)), (q 55, .inl (E.2.1 0, 4, .inl a_sets)), (q 54, .inl (E.2.1 0, 7, .inl a_bestGiven)), (q 53, .inl (E.2.1 0, 7, .inl a_given))] s.heap.size = A at hD hst ⊢
  have hA : ∀ q : Nat, s.heap.size ≤ q → A q := fun q h => by rw [← hAe]; exact Or.inr h
  have hS : va_S A s.heap s.heap [] := va_S.rf
  have hP : va_P E.1 vwCl [(h0, .inr (12, mG q i_taped i_size i_sort i_what i_at i_end i_worth i_faultKind i_faultPlace i_got i_worked (nI dl) i_isPlanned i_bestDone i_bestCost)), (q 51, .inl (E.2.1 0, 512, .inl a_least)), (q 55, .inl (E.2.1 0, 4, .inl a_sets)), (q 54, .inl (E.2.1 0, 7, .inl a_bestGiven)), (q 53, .inl (E.2.1 0, 7, .inl a_given))] s.heap := hP
  have hl := lv_entry ([.ref h0, .int 5]) (n := 6) (Nat.le_of_ble_eq_true rfl)
  rw [lg_entry_eq]
  generalize (lg_sl ([.ref h0, .int 5]) ++ List.replicate (6 - (lg_sl ([.ref h0, .int 5])).length) Slot.unset).toArray = ls at hl ⊢
  have hl : lv_has ls 6 [(0, .ref h0), (1, .int 5)] := hl
  have fl130 := hts (.fieldLink RX12 130 "BoatsHomeModel" "least" "[I") (by first | exact List.mem_of_getElem? (i := 2) rfl | decide +kernel)
  have fl136 := hts (.fieldLink RX12 136 "BoatsHomeModel" "given" "[I") (by first | exact List.mem_of_getElem? (i := 7) rfl | decide +kernel)
  have fl139 := hts (.fieldLink RX12 139 "BoatsHomeModel" "bestGiven" "[I") (by first | exact List.mem_of_getElem? (i := 6) rfl | decide +kernel)
  have fl142 := hts (.fieldLink RX12 142 "BoatsHomeModel" "sets" "[I") (by first | exact List.mem_of_getElem? (i := 3) rfl | decide +kernel)
  have fl289 := hts (.fieldLink RX12 289 "BoatsHomeModel" "deliveries" "I") (by first | exact List.mem_of_getElem? (i := 1) rfl | decide +kernel)
  have fl300 := hts (.fieldLink RX12 300 "BoatsHomeModel" "bestDone" "I") (by first | exact List.mem_of_getElem? (i := 4) rfl | decide +kernel)
  have fl303 := hts (.fieldLink RX12 303 "BoatsHomeModel" "bestCost" "I") (by first | exact List.mem_of_getElem? (i := 5) rfl | decide +kernel)
  have inX12 : ∀ w ∈ u_ws RX12 TX12 59, w ∈ wsX12_give := by first | exact fun w h9 => (List.mem_cons_of_mem _ (List.mem_append_right _ h9)) | decide +kernel
  refine lv_iload_n hx hb dX12_give_0 rfl (lv_at hl 1 rfl) ?_
  refine lv_aload_n hx hb dX12_give_1 rfl (lv_at hl 0 rfl) ?_
  refine va_get (D := E.1) (ci := 12) (v := .int (nI dl)) (C := RX12) (T := TX12) (N := 59) hx hb hts inX12 hown hK hP 0 rfl rfl 41 (by decide) fl289 (fun _ h9 => h9) rfl dX12_give_2 ?_
  refine lv_icmp_ne (tgt := 170) hx hb dX12_give_5 (by decide) (fun c_1 => ?_) (fun c_1 => ?_)
  · have hd2 : 5 + 1 ≤ dl := by
      rcases Nat.lt_or_ge 5 dl with q | q
      · exact q
      · exact absurd (by rw [show dl = 5 by omega]; rfl) c_1
    refine lv_iconst (v := 0) hx hb dX12_give_170 (by decide) ?_
    refine lv_istore_n (lv' := [(2, .int 0), (0, .ref h0), (1, .int 5)]) hx hb dX12_give_171 rfl hl (by decide) rfl (fun ls hl => ?_)
    refine lv_iload_n hx hb dX12_give_172 rfl (lv_at hl 0 rfl) ?_
    refine lv_iconst (v := 4) hx hb dX12_give_173 (by decide) ?_
    refine lv_icmp_ge (tgt := 223) hx hb dX12_give_174 (by decide) (fun c9 => absurd c9 (by decide)) (fun _ => ?_)
    refine lv_aload_n hx hb dX12_give_177 rfl (lv_at hl 1 rfl) ?_
    refine va_get (D := E.1) (ci := 12) (v := .ref (q 53)) (C := RX12) (T := TX12) (N := 59) hx hb hts inX12 hown hK hP 0 rfl rfl 53 (by decide) fl136 (fun _ h9 => h9) rfl dX12_give_178 ?_
    refine lv_iload_n hx hb dX12_give_181 rfl (lv_at hl 2 rfl) ?_
    refine lv_iload_n hx hb dX12_give_182 rfl (lv_at hl 0 rfl) ?_
    refine va_iast hx hb hK hP hD hS 4 0 rfl rfl (show vp_in 5 7 from by unfold vp_in; decide) dX12_give_183 (fun H locs hP hD hS => ?_)
    have hP : va_P E.1 vwCl [(h0, .inr (12, mG q i_taped i_size i_sort i_what i_at i_end i_worth i_faultKind i_faultPlace i_got i_worked (nI dl) i_isPlanned i_bestDone i_bestCost)), (q 51, .inl (E.2.1 0, 512, .inl a_least)), (q 55, .inl (E.2.1 0, 4, .inl a_sets)), (q 54, .inl (E.2.1 0, 7, .inl a_bestGiven)), (q 53, .inl (E.2.1 0, 7, .inl (upd a_given (Int32.toNatClampNeg 5) 0)))] H := hP
    have hD : va_D A [(h0, .inr (12, mG q i_taped i_size i_sort i_what i_at i_end i_worth i_faultKind i_faultPlace i_got i_worked (nI dl) i_isPlanned i_bestDone i_bestCost)), (q 51, .inl (E.2.1 0, 512, .inl a_least)), (q 55, .inl (E.2.1 0, 4, .inl a_sets)), (q 54, .inl (E.2.1 0, 7, .inl a_bestGiven)), (q 53, .inl (E.2.1 0, 7, .inl (upd a_given (Int32.toNatClampNeg 5) 0)))] := hD
    obtain ⟨f_2, ef_2⟩ : ∃ g : Nat → Int32, g = upd a_given (Int32.toNatClampNeg 5) 0 := ⟨_, rfl⟩
    rw [← ef_2] at hP hD
    refine lv_aload_n hx hb dX12_give_184 rfl (lv_at hl 1 rfl) ?_
    refine va_get (D := E.1) (ci := 12) (v := .ref (q 55)) (C := RX12) (T := TX12) (N := 59) hx hb hts inX12 hown hK hP 0 rfl rfl 55 (by decide) fl142 (fun _ h9 => h9) rfl dX12_give_185 ?_
    refine lv_iload_n hx hb dX12_give_188 rfl (lv_at hl 0 rfl) ?_
    refine lv_dup2_11 hx hb dX12_give_189 rfl rfl ?_
    refine va_iald hx hb hK hP 2 0 rfl rfl (show vp_in 0 4 from by unfold vp_in; decide) dX12_give_190 ?_
    refine lv_topi (fun x_3 ex_3 => ?_)
    have hv_4 : inR x_3 0 127 = true := by rw [ex_3]; exact hI_sets _ (vin_cl (show vp_in 0 4 from by unfold vp_in; decide))
    obtain ⟨w_5, hw_6, ew_7⟩ := inR_nI (n := 127) (by decide) hv_4
    subst ew_7
    refine lv_iconst (v := 1) hx hb dX12_give_191 (by decide) ?_
    refine lv_iload_n hx hb dX12_give_192 rfl (lv_at hl 2 rfl) ?_
    refine lv_ishl hx hb dX12_give_193 ?_
    refine lv_topi (fun x_8 ex_8 => ?_)
    obtain rfl : x_8 = 32 := ex_8.trans (by decide +kernel)
    refine lv_ior hx hb dX12_give_194 ?_
    refine lv_topi (fun x_9 ex_9 => ?_)
    refine va_iast hx hb hK hP hD hS 2 0 rfl rfl (show vp_in 0 4 from by unfold vp_in; decide) dX12_give_195 (fun H locs hP hD hS => ?_)
    have hP : va_P E.1 vwCl [(h0, .inr (12, mG q i_taped i_size i_sort i_what i_at i_end i_worth i_faultKind i_faultPlace i_got i_worked (nI dl) i_isPlanned i_bestDone i_bestCost)), (q 51, .inl (E.2.1 0, 512, .inl a_least)), (q 55, .inl (E.2.1 0, 4, .inl (upd a_sets (Int32.toNatClampNeg 0) x_9))), (q 54, .inl (E.2.1 0, 7, .inl a_bestGiven)), (q 53, .inl (E.2.1 0, 7, .inl f_2))] H := hP
    have hD : va_D A [(h0, .inr (12, mG q i_taped i_size i_sort i_what i_at i_end i_worth i_faultKind i_faultPlace i_got i_worked (nI dl) i_isPlanned i_bestDone i_bestCost)), (q 51, .inl (E.2.1 0, 512, .inl a_least)), (q 55, .inl (E.2.1 0, 4, .inl (upd a_sets (Int32.toNatClampNeg 0) x_9))), (q 54, .inl (E.2.1 0, 7, .inl a_bestGiven)), (q 53, .inl (E.2.1 0, 7, .inl f_2))] := hD
    obtain ⟨f_10, ef_10⟩ : ∃ g : Nat → Int32, g = upd a_sets (Int32.toNatClampNeg 0) x_9 := ⟨_, rfl⟩
    rw [← ef_10] at hP hD
    have hI_11 : ∀ k : Nat, k < 4 → inR (f_10 k) 0 127 = true := by rw [ef_10]; exact all_upd (P := fun z => inR z 0 127 = true) hI_sets (by rw [ex_9]; exact or_lt7 _ (by omega) 5 (by decide))
    refine lv_aload_n hx hb dX12_give_196 rfl (lv_at hl 1 rfl) ?_
    refine lv_iload_n hx hb dX12_give_197 rfl (lv_at hl 2 rfl) ?_
    refine lv_iconst (v := 1) hx hb dX12_give_198 (by decide) ?_
    refine lv_iadd hx hb dX12_give_199 ?_
    refine lv_topi (fun x_12 ex_12 => ?_)
    obtain rfl : x_12 = 6 := ex_12.trans (by decide +kernel)
    have hp0 : ∀ i : Nat, i < 4 → f_10 i = put a_sets 0 5 i := put_of (prev := a_sets) (x := x_9) (y := nI w_5) (z := 32) (fun i hi => rfl) (by decide) (ef_10.trans (by rw [show Int32.toNatClampNeg 0 = 0 from by decide])) ex_9 (ex_3.trans (by rw [show Int32.toNatClampNeg 0 = 0 from by decide])) (by decide)
    have hv0 : ∀ k : Nat, k < 5 + 1 → f_2 k = gI (pg gp 5 0 k) := gv_put (cur := a_given) (fun k hk => rfl) hGv (ef_2.trans (by rw [show Int32.toNatClampNeg 5 = 5 from by decide])) (by decide)
    have hPc := hP.sub (ws' := [(h0, .inr (12, mG q i_taped i_size i_sort i_what i_at i_end i_worth i_faultKind i_faultPlace i_got i_worked (nI dl) i_isPlanned i_bestDone i_bestCost)), (q 51, .inl (E.2.1 0, 512, .inl a_least)), (q 55, .inl (E.2.1 0, 4, .inl f_10)), (q 54, .inl (E.2.1 0, 7, .inl a_bestGiven)), (q 53, .inl (E.2.1 0, 7, .inl f_2))]) [0, 1, 2, 3, 4] rfl
    have hDc := hD.sub (ws' := [(h0, .inr (12, mG q i_taped i_size i_sort i_what i_at i_end i_worth i_faultKind i_faultPlace i_got i_worked (nI dl) i_isPlanned i_bestDone i_bestCost)), (q 51, .inl (E.2.1 0, 512, .inl a_least)), (q 55, .inl (E.2.1 0, 4, .inl f_10)), (q 54, .inl (E.2.1 0, 7, .inl a_bestGiven)), (q 53, .inl (E.2.1 0, 7, .inl f_2))]) [0, 1, 2, 3, 4] (by decide) rfl
    have hFc := va_free (wc := [(h0, .inr (12, mG q i_taped i_size i_sort i_what i_at i_end i_worth i_faultKind i_faultPlace i_got i_worked (nI dl) i_isPlanned i_bestDone i_bestCost)), (q 51, .inl (E.2.1 0, 512, .inl a_least)), (q 55, .inl (E.2.1 0, 4, .inl f_10)), (q 54, .inl (E.2.1 0, 7, .inl a_bestGiven)), (q 53, .inl (E.2.1 0, 7, .inl f_2))]) hD hS hA [0, 1, 2, 3, 4] rfl
    refine va_callv (va_runV (As := [.int 6]) (rest := []) ⟨hx, hb, hml, hown, hts⟩ (c_X12_give6 l E h0 q i_taped i_size i_sort i_what i_at i_end i_worth i_faultKind i_faultPlace i_got i_worked i_isPlanned i_bestDone i_bestCost dl FF CC (pg gp 5 0) a_least f_10 a_bestGiven f_2 H.size hdl hd2 (pg_le hp (by decide)) (st_put hSt hp0) hv0 (BG_M (M_0 hd2) hBG) hKm hCb hI_11) (cwV 1 hts gX12_give_X12_give rfl rfl rfl hdV_X12_give ⟨Nat.le_of_ble_eq_true rfl, Nat.le_of_ble_eq_true rfl⟩) ⟨pcW_blind, va_recv hK hPc (ci := 12) (q0 := 0) rfl rfl, (pcW_pre hPc hkn hDc hst hS hFc)⟩ rfl rfl hl.1 rfl (lv_room (Nat.le_of_ble_eq_true rfl)) dX12_give_200 ⟨Nat.le_of_ble_eq_true rfl, Nat.le_of_ble_eq_true rfl⟩) hS (fun q _ h => hFc q h) hFc (fun u t H1 locs ht hvm hw_14 hB hz1 hk1 hS => ?_)
    obtain ⟨u_15, u_16, u_17, u_18, u_19⟩ := u
    obtain ⟨hf_20, hf_21, hf_22, hP1, hD1⟩ := hB
    rw [ht] at hP1
    try dsimp only at hw_14
    obtain ⟨hP, hD⟩ := va_join (wr := []) (w1 := [(h0, .inr (12, mG q i_taped i_size i_sort i_what i_at i_end i_worth i_faultKind i_faultPlace i_got i_worked (nI dl) i_isPlanned u_15 u_16)), (q 51, .inl (E.2.1 0, 512, .inl a_least)), (q 55, .inl (E.2.1 0, 4, .inl u_17)), (q 54, .inl (E.2.1 0, 7, .inl u_18)), (q 53, .inl (E.2.1 0, 7, .inl u_19))]) hP hD [0, 1, 2, 3, 4] [] rfl rfl (by decide) (by decide) hk1 hFc hP1 hD1
    generalize H1 = H at hP hS ⊢
    have hP : va_P E.1 vwCl [(h0, .inr (12, mG q i_taped i_size i_sort i_what i_at i_end i_worth i_faultKind i_faultPlace i_got i_worked (nI dl) i_isPlanned u_15 u_16)), (q 51, .inl (E.2.1 0, 512, .inl a_least)), (q 55, .inl (E.2.1 0, 4, .inl u_17)), (q 54, .inl (E.2.1 0, 7, .inl u_18)), (q 53, .inl (E.2.1 0, 7, .inl u_19))] H := hP
    have hD : va_D A [(h0, .inr (12, mG q i_taped i_size i_sort i_what i_at i_end i_worth i_faultKind i_faultPlace i_got i_worked (nI dl) i_isPlanned u_15 u_16)), (q 51, .inl (E.2.1 0, 512, .inl a_least)), (q 55, .inl (E.2.1 0, 4, .inl u_17)), (q 54, .inl (E.2.1 0, 7, .inl u_18)), (q 53, .inl (E.2.1 0, 7, .inl u_19))] := hD
    refine lv_aload_n hx hb dX12_give_203 rfl (lv_at hl 1 rfl) ?_
    refine va_get (D := E.1) (ci := 12) (v := .ref (q 55)) (C := RX12) (T := TX12) (N := 59) hx hb hts inX12 hown hK hP 0 rfl rfl 55 (by decide) fl142 (fun _ h9 => h9) rfl dX12_give_204 ?_
    refine lv_iload_n hx hb dX12_give_207 rfl (lv_at hl 0 rfl) ?_
    refine lv_dup2_11 hx hb dX12_give_208 rfl rfl ?_
    refine va_iald hx hb hK hP 2 0 rfl rfl (show vp_in 0 4 from by unfold vp_in; decide) dX12_give_209 ?_
    refine lv_topi (fun x_23 ex_23 => ?_)
    have hv_24 : inR x_23 0 127 = true := by rw [ex_23]; exact hf_20 _ (vin_cl (show vp_in 0 4 from by unfold vp_in; decide))
    obtain ⟨w_25, hw_26, ew_27⟩ := inR_nI (n := 127) (by decide) hv_24
    subst ew_27
    refine lv_iconst (v := 1) hx hb dX12_give_210 (by decide) ?_
    refine lv_iload_n hx hb dX12_give_211 rfl (lv_at hl 2 rfl) ?_
    refine lv_ishl hx hb dX12_give_212 ?_
    refine lv_topi (fun x_28 ex_28 => ?_)
    obtain rfl : x_28 = 32 := ex_28.trans (by decide +kernel)
    refine lv_iconst (v := (-1)) hx hb dX12_give_213 (by decide) ?_
    refine lv_ixor hx hb dX12_give_214 ?_
    refine lv_topi (fun x_29 ex_29 => ?_)
    obtain rfl : x_29 = (-33) := ex_29.trans (by decide +kernel)
    refine lv_iand hx hb dX12_give_215 ?_
    refine lv_topi (fun x_30 ex_30 => ?_)
    refine va_iast hx hb hK hP hD hS 2 0 rfl rfl (show vp_in 0 4 from by unfold vp_in; decide) dX12_give_216 (fun H locs hP hD hS => ?_)
    have hP : va_P E.1 vwCl [(h0, .inr (12, mG q i_taped i_size i_sort i_what i_at i_end i_worth i_faultKind i_faultPlace i_got i_worked (nI dl) i_isPlanned u_15 u_16)), (q 51, .inl (E.2.1 0, 512, .inl a_least)), (q 55, .inl (E.2.1 0, 4, .inl (upd u_17 (Int32.toNatClampNeg 0) x_30))), (q 54, .inl (E.2.1 0, 7, .inl u_18)), (q 53, .inl (E.2.1 0, 7, .inl u_19))] H := hP
    have hD : va_D A [(h0, .inr (12, mG q i_taped i_size i_sort i_what i_at i_end i_worth i_faultKind i_faultPlace i_got i_worked (nI dl) i_isPlanned u_15 u_16)), (q 51, .inl (E.2.1 0, 512, .inl a_least)), (q 55, .inl (E.2.1 0, 4, .inl (upd u_17 (Int32.toNatClampNeg 0) x_30))), (q 54, .inl (E.2.1 0, 7, .inl u_18)), (q 53, .inl (E.2.1 0, 7, .inl u_19))] := hD
    obtain ⟨f_31, ef_31⟩ : ∃ g : Nat → Int32, g = upd u_17 (Int32.toNatClampNeg 0) x_30 := ⟨_, rfl⟩
    rw [← ef_31] at hP hD
    have hI_32 : ∀ k : Nat, k < 4 → inR (f_31 k) 0 127 = true := by rw [ef_31]; exact all_upd (P := fun z => inR z 0 127 = true) hf_20 (by rw [ex_30]; exact and_lt7 _ (by omega) 5 (by decide))
    have hb0 : ∀ i : Nat, i < 4 → f_31 i = a_sets i := gback_of (u := u_17) (x := x_30) (y := nI w_25) (z := (-33)) (by decide) (by decide) ⟨gp, hSt⟩ hp0 hf_21 (ef_31.trans (by rw [show Int32.toNatClampNeg 0 = 0 from by decide])) ex_30 (ex_23.trans (by rw [show Int32.toNatClampNeg 0 = 0 from by decide])) (by decide)
    refine lv_iinc (v := 1) (lv' := [(2, .int 1), (0, .ref h0), (1, .int 5)]) hx hb dX12_give_217 hl (k := 0) rfl (by decide) (by decide) rfl (fun ls hl => ?_)
    refine lv_goto (tgt := 172) hx hb dX12_give_220 (by decide) ?_
    refine lv_iload_n hx hb dX12_give_172 rfl (lv_at hl 0 rfl) ?_
    refine lv_iconst (v := 4) hx hb dX12_give_173 (by decide) ?_
    refine lv_icmp_ge (tgt := 223) hx hb dX12_give_174 (by decide) (fun c9 => absurd c9 (by decide)) (fun _ => ?_)
    refine lv_aload_n hx hb dX12_give_177 rfl (lv_at hl 1 rfl) ?_
    refine va_get (D := E.1) (ci := 12) (v := .ref (q 53)) (C := RX12) (T := TX12) (N := 59) hx hb hts inX12 hown hK hP 0 rfl rfl 53 (by decide) fl136 (fun _ h9 => h9) rfl dX12_give_178 ?_
    refine lv_iload_n hx hb dX12_give_181 rfl (lv_at hl 2 rfl) ?_
    refine lv_iload_n hx hb dX12_give_182 rfl (lv_at hl 0 rfl) ?_
    refine va_iast hx hb hK hP hD hS 4 0 rfl rfl (show vp_in 5 7 from by unfold vp_in; decide) dX12_give_183 (fun H locs hP hD hS => ?_)
    have hP : va_P E.1 vwCl [(h0, .inr (12, mG q i_taped i_size i_sort i_what i_at i_end i_worth i_faultKind i_faultPlace i_got i_worked (nI dl) i_isPlanned u_15 u_16)), (q 51, .inl (E.2.1 0, 512, .inl a_least)), (q 55, .inl (E.2.1 0, 4, .inl f_31)), (q 54, .inl (E.2.1 0, 7, .inl u_18)), (q 53, .inl (E.2.1 0, 7, .inl (upd u_19 (Int32.toNatClampNeg 5) 1)))] H := hP
    have hD : va_D A [(h0, .inr (12, mG q i_taped i_size i_sort i_what i_at i_end i_worth i_faultKind i_faultPlace i_got i_worked (nI dl) i_isPlanned u_15 u_16)), (q 51, .inl (E.2.1 0, 512, .inl a_least)), (q 55, .inl (E.2.1 0, 4, .inl f_31)), (q 54, .inl (E.2.1 0, 7, .inl u_18)), (q 53, .inl (E.2.1 0, 7, .inl (upd u_19 (Int32.toNatClampNeg 5) 1)))] := hD
    obtain ⟨f_33, ef_33⟩ : ∃ g : Nat → Int32, g = upd u_19 (Int32.toNatClampNeg 5) 1 := ⟨_, rfl⟩
    rw [← ef_33] at hP hD
    refine lv_aload_n hx hb dX12_give_184 rfl (lv_at hl 1 rfl) ?_
    refine va_get (D := E.1) (ci := 12) (v := .ref (q 55)) (C := RX12) (T := TX12) (N := 59) hx hb hts inX12 hown hK hP 0 rfl rfl 55 (by decide) fl142 (fun _ h9 => h9) rfl dX12_give_185 ?_
    refine lv_iload_n hx hb dX12_give_188 rfl (lv_at hl 0 rfl) ?_
    refine lv_dup2_11 hx hb dX12_give_189 rfl rfl ?_
    refine va_iald hx hb hK hP 2 0 rfl rfl (show vp_in 1 4 from by unfold vp_in; decide) dX12_give_190 ?_
    refine lv_topi (fun x_34 ex_34 => ?_)
    have hv_35 : inR x_34 0 127 = true := by rw [ex_34]; exact hI_32 _ (vin_cl (show vp_in 1 4 from by unfold vp_in; decide))
    obtain ⟨w_36, hw_37, ew_38⟩ := inR_nI (n := 127) (by decide) hv_35
    subst ew_38
    refine lv_iconst (v := 1) hx hb dX12_give_191 (by decide) ?_
    refine lv_iload_n hx hb dX12_give_192 rfl (lv_at hl 2 rfl) ?_
    refine lv_ishl hx hb dX12_give_193 ?_
    refine lv_topi (fun x_39 ex_39 => ?_)
    obtain rfl : x_39 = 32 := ex_39.trans (by decide +kernel)
    refine lv_ior hx hb dX12_give_194 ?_
    refine lv_topi (fun x_40 ex_40 => ?_)
    refine va_iast hx hb hK hP hD hS 2 0 rfl rfl (show vp_in 1 4 from by unfold vp_in; decide) dX12_give_195 (fun H locs hP hD hS => ?_)
    have hP : va_P E.1 vwCl [(h0, .inr (12, mG q i_taped i_size i_sort i_what i_at i_end i_worth i_faultKind i_faultPlace i_got i_worked (nI dl) i_isPlanned u_15 u_16)), (q 51, .inl (E.2.1 0, 512, .inl a_least)), (q 55, .inl (E.2.1 0, 4, .inl (upd f_31 (Int32.toNatClampNeg 1) x_40))), (q 54, .inl (E.2.1 0, 7, .inl u_18)), (q 53, .inl (E.2.1 0, 7, .inl f_33))] H := hP
    have hD : va_D A [(h0, .inr (12, mG q i_taped i_size i_sort i_what i_at i_end i_worth i_faultKind i_faultPlace i_got i_worked (nI dl) i_isPlanned u_15 u_16)), (q 51, .inl (E.2.1 0, 512, .inl a_least)), (q 55, .inl (E.2.1 0, 4, .inl (upd f_31 (Int32.toNatClampNeg 1) x_40))), (q 54, .inl (E.2.1 0, 7, .inl u_18)), (q 53, .inl (E.2.1 0, 7, .inl f_33))] := hD
    obtain ⟨f_41, ef_41⟩ : ∃ g : Nat → Int32, g = upd f_31 (Int32.toNatClampNeg 1) x_40 := ⟨_, rfl⟩
    rw [← ef_41] at hP hD
    have hI_42 : ∀ k : Nat, k < 4 → inR (f_41 k) 0 127 = true := by rw [ef_41]; exact all_upd (P := fun z => inR z 0 127 = true) hI_32 (by rw [ex_40]; exact or_lt7 _ (by omega) 5 (by decide))
    refine lv_aload_n hx hb dX12_give_196 rfl (lv_at hl 1 rfl) ?_
    refine lv_iload_n hx hb dX12_give_197 rfl (lv_at hl 2 rfl) ?_
    refine lv_iconst (v := 1) hx hb dX12_give_198 (by decide) ?_
    refine lv_iadd hx hb dX12_give_199 ?_
    refine lv_topi (fun x_43 ex_43 => ?_)
    obtain rfl : x_43 = 6 := ex_43.trans (by decide +kernel)
    have hp1 : ∀ i : Nat, i < 4 → f_41 i = put a_sets 1 5 i := put_of (prev := f_31) (x := x_40) (y := nI w_36) (z := 32) hb0 (by decide) (ef_41.trans (by rw [show Int32.toNatClampNeg 1 = 1 from by decide])) ex_40 (ex_34.trans (by rw [show Int32.toNatClampNeg 1 = 1 from by decide])) (by decide)
    have hv1 : ∀ k : Nat, k < 5 + 1 → f_33 k = gI (pg gp 5 1 k) := gv_put (cur := u_19) (gv_cur (fun k hk => rfl) (ef_2.trans (by rw [show Int32.toNatClampNeg 5 = 5 from by decide])) hf_22) hGv (ef_33.trans (by rw [show Int32.toNatClampNeg 5 = 5 from by decide])) (by decide)
    have hPc := hP.sub (ws' := [(h0, .inr (12, mG q i_taped i_size i_sort i_what i_at i_end i_worth i_faultKind i_faultPlace i_got i_worked (nI dl) i_isPlanned u_15 u_16)), (q 51, .inl (E.2.1 0, 512, .inl a_least)), (q 55, .inl (E.2.1 0, 4, .inl f_41)), (q 54, .inl (E.2.1 0, 7, .inl u_18)), (q 53, .inl (E.2.1 0, 7, .inl f_33))]) [0, 1, 2, 3, 4] rfl
    have hDc := hD.sub (ws' := [(h0, .inr (12, mG q i_taped i_size i_sort i_what i_at i_end i_worth i_faultKind i_faultPlace i_got i_worked (nI dl) i_isPlanned u_15 u_16)), (q 51, .inl (E.2.1 0, 512, .inl a_least)), (q 55, .inl (E.2.1 0, 4, .inl f_41)), (q 54, .inl (E.2.1 0, 7, .inl u_18)), (q 53, .inl (E.2.1 0, 7, .inl f_33))]) [0, 1, 2, 3, 4] (by decide) rfl
    have hFc := va_free (wc := [(h0, .inr (12, mG q i_taped i_size i_sort i_what i_at i_end i_worth i_faultKind i_faultPlace i_got i_worked (nI dl) i_isPlanned u_15 u_16)), (q 51, .inl (E.2.1 0, 512, .inl a_least)), (q 55, .inl (E.2.1 0, 4, .inl f_41)), (q 54, .inl (E.2.1 0, 7, .inl u_18)), (q 53, .inl (E.2.1 0, 7, .inl f_33))]) hD hS hA [0, 1, 2, 3, 4] rfl
    refine va_callv (va_runV (As := [.int 6]) (rest := []) ⟨hx, hb, hml, hown, hts⟩ (c_X12_give6 l E h0 q i_taped i_size i_sort i_what i_at i_end i_worth i_faultKind i_faultPlace i_got i_worked i_isPlanned u_15 u_16 dl FF CC (pg gp 5 1) a_least f_41 u_18 f_33 H.size hdl hd2 (pg_le hp (by decide)) (st_put hSt hp1) hv1 (BG_M M_s hw_14) hKm hCb hI_42) (cwV 1 hts gX12_give_X12_give rfl rfl rfl hdV_X12_give ⟨Nat.le_of_ble_eq_true rfl, Nat.le_of_ble_eq_true rfl⟩) ⟨pcW_blind, va_recv hK hPc (ci := 12) (q0 := 0) rfl rfl, (pcW_pre hPc hkn hDc hst hS hFc)⟩ rfl rfl hl.1 rfl (lv_room (Nat.le_of_ble_eq_true rfl)) dX12_give_200 ⟨Nat.le_of_ble_eq_true rfl, Nat.le_of_ble_eq_true rfl⟩) hS (fun q _ h => hFc q h) hFc (fun u t H1 locs ht hvm hw_45 hB hz1 hk1 hS => ?_)
    obtain ⟨u_46, u_47, u_48, u_49, u_50⟩ := u
    obtain ⟨hf_51, hf_52, hf_53, hP1, hD1⟩ := hB
    rw [ht] at hP1
    try dsimp only at hw_45
    obtain ⟨hP, hD⟩ := va_join (wr := []) (w1 := [(h0, .inr (12, mG q i_taped i_size i_sort i_what i_at i_end i_worth i_faultKind i_faultPlace i_got i_worked (nI dl) i_isPlanned u_46 u_47)), (q 51, .inl (E.2.1 0, 512, .inl a_least)), (q 55, .inl (E.2.1 0, 4, .inl u_48)), (q 54, .inl (E.2.1 0, 7, .inl u_49)), (q 53, .inl (E.2.1 0, 7, .inl u_50))]) hP hD [0, 1, 2, 3, 4] [] rfl rfl (by decide) (by decide) hk1 hFc hP1 hD1
    generalize H1 = H at hP hS ⊢
    have hP : va_P E.1 vwCl [(h0, .inr (12, mG q i_taped i_size i_sort i_what i_at i_end i_worth i_faultKind i_faultPlace i_got i_worked (nI dl) i_isPlanned u_46 u_47)), (q 51, .inl (E.2.1 0, 512, .inl a_least)), (q 55, .inl (E.2.1 0, 4, .inl u_48)), (q 54, .inl (E.2.1 0, 7, .inl u_49)), (q 53, .inl (E.2.1 0, 7, .inl u_50))] H := hP
    have hD : va_D A [(h0, .inr (12, mG q i_taped i_size i_sort i_what i_at i_end i_worth i_faultKind i_faultPlace i_got i_worked (nI dl) i_isPlanned u_46 u_47)), (q 51, .inl (E.2.1 0, 512, .inl a_least)), (q 55, .inl (E.2.1 0, 4, .inl u_48)), (q 54, .inl (E.2.1 0, 7, .inl u_49)), (q 53, .inl (E.2.1 0, 7, .inl u_50))] := hD
    refine lv_aload_n hx hb dX12_give_203 rfl (lv_at hl 1 rfl) ?_
    refine va_get (D := E.1) (ci := 12) (v := .ref (q 55)) (C := RX12) (T := TX12) (N := 59) hx hb hts inX12 hown hK hP 0 rfl rfl 55 (by decide) fl142 (fun _ h9 => h9) rfl dX12_give_204 ?_
    refine lv_iload_n hx hb dX12_give_207 rfl (lv_at hl 0 rfl) ?_
    refine lv_dup2_11 hx hb dX12_give_208 rfl rfl ?_
    refine va_iald hx hb hK hP 2 0 rfl rfl (show vp_in 1 4 from by unfold vp_in; decide) dX12_give_209 ?_
    refine lv_topi (fun x_54 ex_54 => ?_)
    have hv_55 : inR x_54 0 127 = true := by rw [ex_54]; exact hf_51 _ (vin_cl (show vp_in 1 4 from by unfold vp_in; decide))
    obtain ⟨w_56, hw_57, ew_58⟩ := inR_nI (n := 127) (by decide) hv_55
    subst ew_58
    refine lv_iconst (v := 1) hx hb dX12_give_210 (by decide) ?_
    refine lv_iload_n hx hb dX12_give_211 rfl (lv_at hl 2 rfl) ?_
    refine lv_ishl hx hb dX12_give_212 ?_
    refine lv_topi (fun x_59 ex_59 => ?_)
    obtain rfl : x_59 = 32 := ex_59.trans (by decide +kernel)
    refine lv_iconst (v := (-1)) hx hb dX12_give_213 (by decide) ?_
    refine lv_ixor hx hb dX12_give_214 ?_
    refine lv_topi (fun x_60 ex_60 => ?_)
    obtain rfl : x_60 = (-33) := ex_60.trans (by decide +kernel)
    refine lv_iand hx hb dX12_give_215 ?_
    refine lv_topi (fun x_61 ex_61 => ?_)
    refine va_iast hx hb hK hP hD hS 2 0 rfl rfl (show vp_in 1 4 from by unfold vp_in; decide) dX12_give_216 (fun H locs hP hD hS => ?_)
    have hP : va_P E.1 vwCl [(h0, .inr (12, mG q i_taped i_size i_sort i_what i_at i_end i_worth i_faultKind i_faultPlace i_got i_worked (nI dl) i_isPlanned u_46 u_47)), (q 51, .inl (E.2.1 0, 512, .inl a_least)), (q 55, .inl (E.2.1 0, 4, .inl (upd u_48 (Int32.toNatClampNeg 1) x_61))), (q 54, .inl (E.2.1 0, 7, .inl u_49)), (q 53, .inl (E.2.1 0, 7, .inl u_50))] H := hP
    have hD : va_D A [(h0, .inr (12, mG q i_taped i_size i_sort i_what i_at i_end i_worth i_faultKind i_faultPlace i_got i_worked (nI dl) i_isPlanned u_46 u_47)), (q 51, .inl (E.2.1 0, 512, .inl a_least)), (q 55, .inl (E.2.1 0, 4, .inl (upd u_48 (Int32.toNatClampNeg 1) x_61))), (q 54, .inl (E.2.1 0, 7, .inl u_49)), (q 53, .inl (E.2.1 0, 7, .inl u_50))] := hD
    obtain ⟨f_62, ef_62⟩ : ∃ g : Nat → Int32, g = upd u_48 (Int32.toNatClampNeg 1) x_61 := ⟨_, rfl⟩
    rw [← ef_62] at hP hD
    have hI_63 : ∀ k : Nat, k < 4 → inR (f_62 k) 0 127 = true := by rw [ef_62]; exact all_upd (P := fun z => inR z 0 127 = true) hf_51 (by rw [ex_61]; exact and_lt7 _ (by omega) 5 (by decide))
    have hb1 : ∀ i : Nat, i < 4 → f_62 i = a_sets i := gback_of (u := u_48) (x := x_61) (y := nI w_56) (z := (-33)) (by decide) (by decide) ⟨gp, hSt⟩ hp1 hf_52 (ef_62.trans (by rw [show Int32.toNatClampNeg 1 = 1 from by decide])) ex_61 (ex_54.trans (by rw [show Int32.toNatClampNeg 1 = 1 from by decide])) (by decide)
    refine lv_iinc (v := 2) (lv' := [(2, .int 2), (0, .ref h0), (1, .int 5)]) hx hb dX12_give_217 hl (k := 0) rfl (by decide) (by decide) rfl (fun ls hl => ?_)
    refine lv_goto (tgt := 172) hx hb dX12_give_220 (by decide) ?_
    refine lv_iload_n hx hb dX12_give_172 rfl (lv_at hl 0 rfl) ?_
    refine lv_iconst (v := 4) hx hb dX12_give_173 (by decide) ?_
    refine lv_icmp_ge (tgt := 223) hx hb dX12_give_174 (by decide) (fun c9 => absurd c9 (by decide)) (fun _ => ?_)
    refine lv_aload_n hx hb dX12_give_177 rfl (lv_at hl 1 rfl) ?_
    refine va_get (D := E.1) (ci := 12) (v := .ref (q 53)) (C := RX12) (T := TX12) (N := 59) hx hb hts inX12 hown hK hP 0 rfl rfl 53 (by decide) fl136 (fun _ h9 => h9) rfl dX12_give_178 ?_
    refine lv_iload_n hx hb dX12_give_181 rfl (lv_at hl 2 rfl) ?_
    refine lv_iload_n hx hb dX12_give_182 rfl (lv_at hl 0 rfl) ?_
    refine va_iast hx hb hK hP hD hS 4 0 rfl rfl (show vp_in 5 7 from by unfold vp_in; decide) dX12_give_183 (fun H locs hP hD hS => ?_)
    have hP : va_P E.1 vwCl [(h0, .inr (12, mG q i_taped i_size i_sort i_what i_at i_end i_worth i_faultKind i_faultPlace i_got i_worked (nI dl) i_isPlanned u_46 u_47)), (q 51, .inl (E.2.1 0, 512, .inl a_least)), (q 55, .inl (E.2.1 0, 4, .inl f_62)), (q 54, .inl (E.2.1 0, 7, .inl u_49)), (q 53, .inl (E.2.1 0, 7, .inl (upd u_50 (Int32.toNatClampNeg 5) 2)))] H := hP
    have hD : va_D A [(h0, .inr (12, mG q i_taped i_size i_sort i_what i_at i_end i_worth i_faultKind i_faultPlace i_got i_worked (nI dl) i_isPlanned u_46 u_47)), (q 51, .inl (E.2.1 0, 512, .inl a_least)), (q 55, .inl (E.2.1 0, 4, .inl f_62)), (q 54, .inl (E.2.1 0, 7, .inl u_49)), (q 53, .inl (E.2.1 0, 7, .inl (upd u_50 (Int32.toNatClampNeg 5) 2)))] := hD
    obtain ⟨f_64, ef_64⟩ : ∃ g : Nat → Int32, g = upd u_50 (Int32.toNatClampNeg 5) 2 := ⟨_, rfl⟩
    rw [← ef_64] at hP hD
    refine lv_aload_n hx hb dX12_give_184 rfl (lv_at hl 1 rfl) ?_
    refine va_get (D := E.1) (ci := 12) (v := .ref (q 55)) (C := RX12) (T := TX12) (N := 59) hx hb hts inX12 hown hK hP 0 rfl rfl 55 (by decide) fl142 (fun _ h9 => h9) rfl dX12_give_185 ?_
    refine lv_iload_n hx hb dX12_give_188 rfl (lv_at hl 0 rfl) ?_
    refine lv_dup2_11 hx hb dX12_give_189 rfl rfl ?_
    refine va_iald hx hb hK hP 2 0 rfl rfl (show vp_in 2 4 from by unfold vp_in; decide) dX12_give_190 ?_
    refine lv_topi (fun x_65 ex_65 => ?_)
    have hv_66 : inR x_65 0 127 = true := by rw [ex_65]; exact hI_63 _ (vin_cl (show vp_in 2 4 from by unfold vp_in; decide))
    obtain ⟨w_67, hw_68, ew_69⟩ := inR_nI (n := 127) (by decide) hv_66
    subst ew_69
    refine lv_iconst (v := 1) hx hb dX12_give_191 (by decide) ?_
    refine lv_iload_n hx hb dX12_give_192 rfl (lv_at hl 2 rfl) ?_
    refine lv_ishl hx hb dX12_give_193 ?_
    refine lv_topi (fun x_70 ex_70 => ?_)
    obtain rfl : x_70 = 32 := ex_70.trans (by decide +kernel)
    refine lv_ior hx hb dX12_give_194 ?_
    refine lv_topi (fun x_71 ex_71 => ?_)
    refine va_iast hx hb hK hP hD hS 2 0 rfl rfl (show vp_in 2 4 from by unfold vp_in; decide) dX12_give_195 (fun H locs hP hD hS => ?_)
    have hP : va_P E.1 vwCl [(h0, .inr (12, mG q i_taped i_size i_sort i_what i_at i_end i_worth i_faultKind i_faultPlace i_got i_worked (nI dl) i_isPlanned u_46 u_47)), (q 51, .inl (E.2.1 0, 512, .inl a_least)), (q 55, .inl (E.2.1 0, 4, .inl (upd f_62 (Int32.toNatClampNeg 2) x_71))), (q 54, .inl (E.2.1 0, 7, .inl u_49)), (q 53, .inl (E.2.1 0, 7, .inl f_64))] H := hP
    have hD : va_D A [(h0, .inr (12, mG q i_taped i_size i_sort i_what i_at i_end i_worth i_faultKind i_faultPlace i_got i_worked (nI dl) i_isPlanned u_46 u_47)), (q 51, .inl (E.2.1 0, 512, .inl a_least)), (q 55, .inl (E.2.1 0, 4, .inl (upd f_62 (Int32.toNatClampNeg 2) x_71))), (q 54, .inl (E.2.1 0, 7, .inl u_49)), (q 53, .inl (E.2.1 0, 7, .inl f_64))] := hD
    obtain ⟨f_72, ef_72⟩ : ∃ g : Nat → Int32, g = upd f_62 (Int32.toNatClampNeg 2) x_71 := ⟨_, rfl⟩
    rw [← ef_72] at hP hD
    have hI_73 : ∀ k : Nat, k < 4 → inR (f_72 k) 0 127 = true := by rw [ef_72]; exact all_upd (P := fun z => inR z 0 127 = true) hI_63 (by rw [ex_71]; exact or_lt7 _ (by omega) 5 (by decide))
    refine lv_aload_n hx hb dX12_give_196 rfl (lv_at hl 1 rfl) ?_
    refine lv_iload_n hx hb dX12_give_197 rfl (lv_at hl 2 rfl) ?_
    refine lv_iconst (v := 1) hx hb dX12_give_198 (by decide) ?_
    refine lv_iadd hx hb dX12_give_199 ?_
    refine lv_topi (fun x_74 ex_74 => ?_)
    obtain rfl : x_74 = 6 := ex_74.trans (by decide +kernel)
    have hp2 : ∀ i : Nat, i < 4 → f_72 i = put a_sets 2 5 i := put_of (prev := f_62) (x := x_71) (y := nI w_67) (z := 32) hb1 (by decide) (ef_72.trans (by rw [show Int32.toNatClampNeg 2 = 2 from by decide])) ex_71 (ex_65.trans (by rw [show Int32.toNatClampNeg 2 = 2 from by decide])) (by decide)
    have hv2 : ∀ k : Nat, k < 5 + 1 → f_64 k = gI (pg gp 5 2 k) := gv_put (cur := u_50) (gv_cur (gv_cur (fun k hk => rfl) (ef_2.trans (by rw [show Int32.toNatClampNeg 5 = 5 from by decide])) hf_22) (ef_33.trans (by rw [show Int32.toNatClampNeg 5 = 5 from by decide])) hf_53) hGv (ef_64.trans (by rw [show Int32.toNatClampNeg 5 = 5 from by decide])) (by decide)
    have hPc := hP.sub (ws' := [(h0, .inr (12, mG q i_taped i_size i_sort i_what i_at i_end i_worth i_faultKind i_faultPlace i_got i_worked (nI dl) i_isPlanned u_46 u_47)), (q 51, .inl (E.2.1 0, 512, .inl a_least)), (q 55, .inl (E.2.1 0, 4, .inl f_72)), (q 54, .inl (E.2.1 0, 7, .inl u_49)), (q 53, .inl (E.2.1 0, 7, .inl f_64))]) [0, 1, 2, 3, 4] rfl
    have hDc := hD.sub (ws' := [(h0, .inr (12, mG q i_taped i_size i_sort i_what i_at i_end i_worth i_faultKind i_faultPlace i_got i_worked (nI dl) i_isPlanned u_46 u_47)), (q 51, .inl (E.2.1 0, 512, .inl a_least)), (q 55, .inl (E.2.1 0, 4, .inl f_72)), (q 54, .inl (E.2.1 0, 7, .inl u_49)), (q 53, .inl (E.2.1 0, 7, .inl f_64))]) [0, 1, 2, 3, 4] (by decide) rfl
    have hFc := va_free (wc := [(h0, .inr (12, mG q i_taped i_size i_sort i_what i_at i_end i_worth i_faultKind i_faultPlace i_got i_worked (nI dl) i_isPlanned u_46 u_47)), (q 51, .inl (E.2.1 0, 512, .inl a_least)), (q 55, .inl (E.2.1 0, 4, .inl f_72)), (q 54, .inl (E.2.1 0, 7, .inl u_49)), (q 53, .inl (E.2.1 0, 7, .inl f_64))]) hD hS hA [0, 1, 2, 3, 4] rfl
    refine va_callv (va_runV (As := [.int 6]) (rest := []) ⟨hx, hb, hml, hown, hts⟩ (c_X12_give6 l E h0 q i_taped i_size i_sort i_what i_at i_end i_worth i_faultKind i_faultPlace i_got i_worked i_isPlanned u_46 u_47 dl FF CC (pg gp 5 2) a_least f_72 u_49 f_64 H.size hdl hd2 (pg_le hp (by decide)) (st_put hSt hp2) hv2 (BG_M M_s hw_45) hKm hCb hI_73) (cwV 1 hts gX12_give_X12_give rfl rfl rfl hdV_X12_give ⟨Nat.le_of_ble_eq_true rfl, Nat.le_of_ble_eq_true rfl⟩) ⟨pcW_blind, va_recv hK hPc (ci := 12) (q0 := 0) rfl rfl, (pcW_pre hPc hkn hDc hst hS hFc)⟩ rfl rfl hl.1 rfl (lv_room (Nat.le_of_ble_eq_true rfl)) dX12_give_200 ⟨Nat.le_of_ble_eq_true rfl, Nat.le_of_ble_eq_true rfl⟩) hS (fun q _ h => hFc q h) hFc (fun u t H1 locs ht hvm hw_76 hB hz1 hk1 hS => ?_)
    obtain ⟨u_77, u_78, u_79, u_80, u_81⟩ := u
    obtain ⟨hf_82, hf_83, hf_84, hP1, hD1⟩ := hB
    rw [ht] at hP1
    try dsimp only at hw_76
    obtain ⟨hP, hD⟩ := va_join (wr := []) (w1 := [(h0, .inr (12, mG q i_taped i_size i_sort i_what i_at i_end i_worth i_faultKind i_faultPlace i_got i_worked (nI dl) i_isPlanned u_77 u_78)), (q 51, .inl (E.2.1 0, 512, .inl a_least)), (q 55, .inl (E.2.1 0, 4, .inl u_79)), (q 54, .inl (E.2.1 0, 7, .inl u_80)), (q 53, .inl (E.2.1 0, 7, .inl u_81))]) hP hD [0, 1, 2, 3, 4] [] rfl rfl (by decide) (by decide) hk1 hFc hP1 hD1
    generalize H1 = H at hP hS ⊢
    have hP : va_P E.1 vwCl [(h0, .inr (12, mG q i_taped i_size i_sort i_what i_at i_end i_worth i_faultKind i_faultPlace i_got i_worked (nI dl) i_isPlanned u_77 u_78)), (q 51, .inl (E.2.1 0, 512, .inl a_least)), (q 55, .inl (E.2.1 0, 4, .inl u_79)), (q 54, .inl (E.2.1 0, 7, .inl u_80)), (q 53, .inl (E.2.1 0, 7, .inl u_81))] H := hP
    have hD : va_D A [(h0, .inr (12, mG q i_taped i_size i_sort i_what i_at i_end i_worth i_faultKind i_faultPlace i_got i_worked (nI dl) i_isPlanned u_77 u_78)), (q 51, .inl (E.2.1 0, 512, .inl a_least)), (q 55, .inl (E.2.1 0, 4, .inl u_79)), (q 54, .inl (E.2.1 0, 7, .inl u_80)), (q 53, .inl (E.2.1 0, 7, .inl u_81))] := hD
    refine lv_aload_n hx hb dX12_give_203 rfl (lv_at hl 1 rfl) ?_
    refine va_get (D := E.1) (ci := 12) (v := .ref (q 55)) (C := RX12) (T := TX12) (N := 59) hx hb hts inX12 hown hK hP 0 rfl rfl 55 (by decide) fl142 (fun _ h9 => h9) rfl dX12_give_204 ?_
    refine lv_iload_n hx hb dX12_give_207 rfl (lv_at hl 0 rfl) ?_
    refine lv_dup2_11 hx hb dX12_give_208 rfl rfl ?_
    refine va_iald hx hb hK hP 2 0 rfl rfl (show vp_in 2 4 from by unfold vp_in; decide) dX12_give_209 ?_
    refine lv_topi (fun x_85 ex_85 => ?_)
    have hv_86 : inR x_85 0 127 = true := by rw [ex_85]; exact hf_82 _ (vin_cl (show vp_in 2 4 from by unfold vp_in; decide))
    obtain ⟨w_87, hw_88, ew_89⟩ := inR_nI (n := 127) (by decide) hv_86
    subst ew_89
    refine lv_iconst (v := 1) hx hb dX12_give_210 (by decide) ?_
    refine lv_iload_n hx hb dX12_give_211 rfl (lv_at hl 2 rfl) ?_
    refine lv_ishl hx hb dX12_give_212 ?_
    refine lv_topi (fun x_90 ex_90 => ?_)
    obtain rfl : x_90 = 32 := ex_90.trans (by decide +kernel)
    refine lv_iconst (v := (-1)) hx hb dX12_give_213 (by decide) ?_
    refine lv_ixor hx hb dX12_give_214 ?_
    refine lv_topi (fun x_91 ex_91 => ?_)
    obtain rfl : x_91 = (-33) := ex_91.trans (by decide +kernel)
    refine lv_iand hx hb dX12_give_215 ?_
    refine lv_topi (fun x_92 ex_92 => ?_)
    refine va_iast hx hb hK hP hD hS 2 0 rfl rfl (show vp_in 2 4 from by unfold vp_in; decide) dX12_give_216 (fun H locs hP hD hS => ?_)
    have hP : va_P E.1 vwCl [(h0, .inr (12, mG q i_taped i_size i_sort i_what i_at i_end i_worth i_faultKind i_faultPlace i_got i_worked (nI dl) i_isPlanned u_77 u_78)), (q 51, .inl (E.2.1 0, 512, .inl a_least)), (q 55, .inl (E.2.1 0, 4, .inl (upd u_79 (Int32.toNatClampNeg 2) x_92))), (q 54, .inl (E.2.1 0, 7, .inl u_80)), (q 53, .inl (E.2.1 0, 7, .inl u_81))] H := hP
    have hD : va_D A [(h0, .inr (12, mG q i_taped i_size i_sort i_what i_at i_end i_worth i_faultKind i_faultPlace i_got i_worked (nI dl) i_isPlanned u_77 u_78)), (q 51, .inl (E.2.1 0, 512, .inl a_least)), (q 55, .inl (E.2.1 0, 4, .inl (upd u_79 (Int32.toNatClampNeg 2) x_92))), (q 54, .inl (E.2.1 0, 7, .inl u_80)), (q 53, .inl (E.2.1 0, 7, .inl u_81))] := hD
    obtain ⟨f_93, ef_93⟩ : ∃ g : Nat → Int32, g = upd u_79 (Int32.toNatClampNeg 2) x_92 := ⟨_, rfl⟩
    rw [← ef_93] at hP hD
    have hI_94 : ∀ k : Nat, k < 4 → inR (f_93 k) 0 127 = true := by rw [ef_93]; exact all_upd (P := fun z => inR z 0 127 = true) hf_82 (by rw [ex_92]; exact and_lt7 _ (by omega) 5 (by decide))
    have hb2 : ∀ i : Nat, i < 4 → f_93 i = a_sets i := gback_of (u := u_79) (x := x_92) (y := nI w_87) (z := (-33)) (by decide) (by decide) ⟨gp, hSt⟩ hp2 hf_83 (ef_93.trans (by rw [show Int32.toNatClampNeg 2 = 2 from by decide])) ex_92 (ex_85.trans (by rw [show Int32.toNatClampNeg 2 = 2 from by decide])) (by decide)
    refine lv_iinc (v := 3) (lv' := [(2, .int 3), (0, .ref h0), (1, .int 5)]) hx hb dX12_give_217 hl (k := 0) rfl (by decide) (by decide) rfl (fun ls hl => ?_)
    refine lv_goto (tgt := 172) hx hb dX12_give_220 (by decide) ?_
    refine lv_iload_n hx hb dX12_give_172 rfl (lv_at hl 0 rfl) ?_
    refine lv_iconst (v := 4) hx hb dX12_give_173 (by decide) ?_
    refine lv_icmp_ge (tgt := 223) hx hb dX12_give_174 (by decide) (fun c9 => absurd c9 (by decide)) (fun _ => ?_)
    refine lv_aload_n hx hb dX12_give_177 rfl (lv_at hl 1 rfl) ?_
    refine va_get (D := E.1) (ci := 12) (v := .ref (q 53)) (C := RX12) (T := TX12) (N := 59) hx hb hts inX12 hown hK hP 0 rfl rfl 53 (by decide) fl136 (fun _ h9 => h9) rfl dX12_give_178 ?_
    refine lv_iload_n hx hb dX12_give_181 rfl (lv_at hl 2 rfl) ?_
    refine lv_iload_n hx hb dX12_give_182 rfl (lv_at hl 0 rfl) ?_
    refine va_iast hx hb hK hP hD hS 4 0 rfl rfl (show vp_in 5 7 from by unfold vp_in; decide) dX12_give_183 (fun H locs hP hD hS => ?_)
    have hP : va_P E.1 vwCl [(h0, .inr (12, mG q i_taped i_size i_sort i_what i_at i_end i_worth i_faultKind i_faultPlace i_got i_worked (nI dl) i_isPlanned u_77 u_78)), (q 51, .inl (E.2.1 0, 512, .inl a_least)), (q 55, .inl (E.2.1 0, 4, .inl f_93)), (q 54, .inl (E.2.1 0, 7, .inl u_80)), (q 53, .inl (E.2.1 0, 7, .inl (upd u_81 (Int32.toNatClampNeg 5) 3)))] H := hP
    have hD : va_D A [(h0, .inr (12, mG q i_taped i_size i_sort i_what i_at i_end i_worth i_faultKind i_faultPlace i_got i_worked (nI dl) i_isPlanned u_77 u_78)), (q 51, .inl (E.2.1 0, 512, .inl a_least)), (q 55, .inl (E.2.1 0, 4, .inl f_93)), (q 54, .inl (E.2.1 0, 7, .inl u_80)), (q 53, .inl (E.2.1 0, 7, .inl (upd u_81 (Int32.toNatClampNeg 5) 3)))] := hD
    obtain ⟨f_95, ef_95⟩ : ∃ g : Nat → Int32, g = upd u_81 (Int32.toNatClampNeg 5) 3 := ⟨_, rfl⟩
    rw [← ef_95] at hP hD
    refine lv_aload_n hx hb dX12_give_184 rfl (lv_at hl 1 rfl) ?_
    refine va_get (D := E.1) (ci := 12) (v := .ref (q 55)) (C := RX12) (T := TX12) (N := 59) hx hb hts inX12 hown hK hP 0 rfl rfl 55 (by decide) fl142 (fun _ h9 => h9) rfl dX12_give_185 ?_
    refine lv_iload_n hx hb dX12_give_188 rfl (lv_at hl 0 rfl) ?_
    refine lv_dup2_11 hx hb dX12_give_189 rfl rfl ?_
    refine va_iald hx hb hK hP 2 0 rfl rfl (show vp_in 3 4 from by unfold vp_in; decide) dX12_give_190 ?_
    refine lv_topi (fun x_96 ex_96 => ?_)
    have hv_97 : inR x_96 0 127 = true := by rw [ex_96]; exact hI_94 _ (vin_cl (show vp_in 3 4 from by unfold vp_in; decide))
    obtain ⟨w_98, hw_99, ew_100⟩ := inR_nI (n := 127) (by decide) hv_97
    subst ew_100
    refine lv_iconst (v := 1) hx hb dX12_give_191 (by decide) ?_
    refine lv_iload_n hx hb dX12_give_192 rfl (lv_at hl 2 rfl) ?_
    refine lv_ishl hx hb dX12_give_193 ?_
    refine lv_topi (fun x_101 ex_101 => ?_)
    obtain rfl : x_101 = 32 := ex_101.trans (by decide +kernel)
    refine lv_ior hx hb dX12_give_194 ?_
    refine lv_topi (fun x_102 ex_102 => ?_)
    refine va_iast hx hb hK hP hD hS 2 0 rfl rfl (show vp_in 3 4 from by unfold vp_in; decide) dX12_give_195 (fun H locs hP hD hS => ?_)
    have hP : va_P E.1 vwCl [(h0, .inr (12, mG q i_taped i_size i_sort i_what i_at i_end i_worth i_faultKind i_faultPlace i_got i_worked (nI dl) i_isPlanned u_77 u_78)), (q 51, .inl (E.2.1 0, 512, .inl a_least)), (q 55, .inl (E.2.1 0, 4, .inl (upd f_93 (Int32.toNatClampNeg 3) x_102))), (q 54, .inl (E.2.1 0, 7, .inl u_80)), (q 53, .inl (E.2.1 0, 7, .inl f_95))] H := hP
    have hD : va_D A [(h0, .inr (12, mG q i_taped i_size i_sort i_what i_at i_end i_worth i_faultKind i_faultPlace i_got i_worked (nI dl) i_isPlanned u_77 u_78)), (q 51, .inl (E.2.1 0, 512, .inl a_least)), (q 55, .inl (E.2.1 0, 4, .inl (upd f_93 (Int32.toNatClampNeg 3) x_102))), (q 54, .inl (E.2.1 0, 7, .inl u_80)), (q 53, .inl (E.2.1 0, 7, .inl f_95))] := hD
    obtain ⟨f_103, ef_103⟩ : ∃ g : Nat → Int32, g = upd f_93 (Int32.toNatClampNeg 3) x_102 := ⟨_, rfl⟩
    rw [← ef_103] at hP hD
    have hI_104 : ∀ k : Nat, k < 4 → inR (f_103 k) 0 127 = true := by rw [ef_103]; exact all_upd (P := fun z => inR z 0 127 = true) hI_94 (by rw [ex_102]; exact or_lt7 _ (by omega) 5 (by decide))
    refine lv_aload_n hx hb dX12_give_196 rfl (lv_at hl 1 rfl) ?_
    refine lv_iload_n hx hb dX12_give_197 rfl (lv_at hl 2 rfl) ?_
    refine lv_iconst (v := 1) hx hb dX12_give_198 (by decide) ?_
    refine lv_iadd hx hb dX12_give_199 ?_
    refine lv_topi (fun x_105 ex_105 => ?_)
    obtain rfl : x_105 = 6 := ex_105.trans (by decide +kernel)
    have hp3 : ∀ i : Nat, i < 4 → f_103 i = put a_sets 3 5 i := put_of (prev := f_93) (x := x_102) (y := nI w_98) (z := 32) hb2 (by decide) (ef_103.trans (by rw [show Int32.toNatClampNeg 3 = 3 from by decide])) ex_102 (ex_96.trans (by rw [show Int32.toNatClampNeg 3 = 3 from by decide])) (by decide)
    have hv3 : ∀ k : Nat, k < 5 + 1 → f_95 k = gI (pg gp 5 3 k) := gv_put (cur := u_81) (gv_cur (gv_cur (gv_cur (fun k hk => rfl) (ef_2.trans (by rw [show Int32.toNatClampNeg 5 = 5 from by decide])) hf_22) (ef_33.trans (by rw [show Int32.toNatClampNeg 5 = 5 from by decide])) hf_53) (ef_64.trans (by rw [show Int32.toNatClampNeg 5 = 5 from by decide])) hf_84) hGv (ef_95.trans (by rw [show Int32.toNatClampNeg 5 = 5 from by decide])) (by decide)
    have hPc := hP.sub (ws' := [(h0, .inr (12, mG q i_taped i_size i_sort i_what i_at i_end i_worth i_faultKind i_faultPlace i_got i_worked (nI dl) i_isPlanned u_77 u_78)), (q 51, .inl (E.2.1 0, 512, .inl a_least)), (q 55, .inl (E.2.1 0, 4, .inl f_103)), (q 54, .inl (E.2.1 0, 7, .inl u_80)), (q 53, .inl (E.2.1 0, 7, .inl f_95))]) [0, 1, 2, 3, 4] rfl
    have hDc := hD.sub (ws' := [(h0, .inr (12, mG q i_taped i_size i_sort i_what i_at i_end i_worth i_faultKind i_faultPlace i_got i_worked (nI dl) i_isPlanned u_77 u_78)), (q 51, .inl (E.2.1 0, 512, .inl a_least)), (q 55, .inl (E.2.1 0, 4, .inl f_103)), (q 54, .inl (E.2.1 0, 7, .inl u_80)), (q 53, .inl (E.2.1 0, 7, .inl f_95))]) [0, 1, 2, 3, 4] (by decide) rfl
    have hFc := va_free (wc := [(h0, .inr (12, mG q i_taped i_size i_sort i_what i_at i_end i_worth i_faultKind i_faultPlace i_got i_worked (nI dl) i_isPlanned u_77 u_78)), (q 51, .inl (E.2.1 0, 512, .inl a_least)), (q 55, .inl (E.2.1 0, 4, .inl f_103)), (q 54, .inl (E.2.1 0, 7, .inl u_80)), (q 53, .inl (E.2.1 0, 7, .inl f_95))]) hD hS hA [0, 1, 2, 3, 4] rfl
    refine va_callv (va_runV (As := [.int 6]) (rest := []) ⟨hx, hb, hml, hown, hts⟩ (c_X12_give6 l E h0 q i_taped i_size i_sort i_what i_at i_end i_worth i_faultKind i_faultPlace i_got i_worked i_isPlanned u_77 u_78 dl FF CC (pg gp 5 3) a_least f_103 u_80 f_95 H.size hdl hd2 (pg_le hp (by decide)) (st_put hSt hp3) hv3 (BG_M M_s hw_76) hKm hCb hI_104) (cwV 1 hts gX12_give_X12_give rfl rfl rfl hdV_X12_give ⟨Nat.le_of_ble_eq_true rfl, Nat.le_of_ble_eq_true rfl⟩) ⟨pcW_blind, va_recv hK hPc (ci := 12) (q0 := 0) rfl rfl, (pcW_pre hPc hkn hDc hst hS hFc)⟩ rfl rfl hl.1 rfl (lv_room (Nat.le_of_ble_eq_true rfl)) dX12_give_200 ⟨Nat.le_of_ble_eq_true rfl, Nat.le_of_ble_eq_true rfl⟩) hS (fun q _ h => hFc q h) hFc (fun u t H1 locs ht hvm hw_107 hB hz1 hk1 hS => ?_)
    obtain ⟨u_108, u_109, u_110, u_111, u_112⟩ := u
    obtain ⟨hf_113, hf_114, hf_115, hP1, hD1⟩ := hB
    rw [ht] at hP1
    try dsimp only at hw_107
    obtain ⟨hP, hD⟩ := va_join (wr := []) (w1 := [(h0, .inr (12, mG q i_taped i_size i_sort i_what i_at i_end i_worth i_faultKind i_faultPlace i_got i_worked (nI dl) i_isPlanned u_108 u_109)), (q 51, .inl (E.2.1 0, 512, .inl a_least)), (q 55, .inl (E.2.1 0, 4, .inl u_110)), (q 54, .inl (E.2.1 0, 7, .inl u_111)), (q 53, .inl (E.2.1 0, 7, .inl u_112))]) hP hD [0, 1, 2, 3, 4] [] rfl rfl (by decide) (by decide) hk1 hFc hP1 hD1
    generalize H1 = H at hP hS ⊢
    have hP : va_P E.1 vwCl [(h0, .inr (12, mG q i_taped i_size i_sort i_what i_at i_end i_worth i_faultKind i_faultPlace i_got i_worked (nI dl) i_isPlanned u_108 u_109)), (q 51, .inl (E.2.1 0, 512, .inl a_least)), (q 55, .inl (E.2.1 0, 4, .inl u_110)), (q 54, .inl (E.2.1 0, 7, .inl u_111)), (q 53, .inl (E.2.1 0, 7, .inl u_112))] H := hP
    have hD : va_D A [(h0, .inr (12, mG q i_taped i_size i_sort i_what i_at i_end i_worth i_faultKind i_faultPlace i_got i_worked (nI dl) i_isPlanned u_108 u_109)), (q 51, .inl (E.2.1 0, 512, .inl a_least)), (q 55, .inl (E.2.1 0, 4, .inl u_110)), (q 54, .inl (E.2.1 0, 7, .inl u_111)), (q 53, .inl (E.2.1 0, 7, .inl u_112))] := hD
    refine lv_aload_n hx hb dX12_give_203 rfl (lv_at hl 1 rfl) ?_
    refine va_get (D := E.1) (ci := 12) (v := .ref (q 55)) (C := RX12) (T := TX12) (N := 59) hx hb hts inX12 hown hK hP 0 rfl rfl 55 (by decide) fl142 (fun _ h9 => h9) rfl dX12_give_204 ?_
    refine lv_iload_n hx hb dX12_give_207 rfl (lv_at hl 0 rfl) ?_
    refine lv_dup2_11 hx hb dX12_give_208 rfl rfl ?_
    refine va_iald hx hb hK hP 2 0 rfl rfl (show vp_in 3 4 from by unfold vp_in; decide) dX12_give_209 ?_
    refine lv_topi (fun x_116 ex_116 => ?_)
    have hv_117 : inR x_116 0 127 = true := by rw [ex_116]; exact hf_113 _ (vin_cl (show vp_in 3 4 from by unfold vp_in; decide))
    obtain ⟨w_118, hw_119, ew_120⟩ := inR_nI (n := 127) (by decide) hv_117
    subst ew_120
    refine lv_iconst (v := 1) hx hb dX12_give_210 (by decide) ?_
    refine lv_iload_n hx hb dX12_give_211 rfl (lv_at hl 2 rfl) ?_
    refine lv_ishl hx hb dX12_give_212 ?_
    refine lv_topi (fun x_121 ex_121 => ?_)
    obtain rfl : x_121 = 32 := ex_121.trans (by decide +kernel)
    refine lv_iconst (v := (-1)) hx hb dX12_give_213 (by decide) ?_
    refine lv_ixor hx hb dX12_give_214 ?_
    refine lv_topi (fun x_122 ex_122 => ?_)
    obtain rfl : x_122 = (-33) := ex_122.trans (by decide +kernel)
    refine lv_iand hx hb dX12_give_215 ?_
    refine lv_topi (fun x_123 ex_123 => ?_)
    refine va_iast hx hb hK hP hD hS 2 0 rfl rfl (show vp_in 3 4 from by unfold vp_in; decide) dX12_give_216 (fun H locs hP hD hS => ?_)
    have hP : va_P E.1 vwCl [(h0, .inr (12, mG q i_taped i_size i_sort i_what i_at i_end i_worth i_faultKind i_faultPlace i_got i_worked (nI dl) i_isPlanned u_108 u_109)), (q 51, .inl (E.2.1 0, 512, .inl a_least)), (q 55, .inl (E.2.1 0, 4, .inl (upd u_110 (Int32.toNatClampNeg 3) x_123))), (q 54, .inl (E.2.1 0, 7, .inl u_111)), (q 53, .inl (E.2.1 0, 7, .inl u_112))] H := hP
    have hD : va_D A [(h0, .inr (12, mG q i_taped i_size i_sort i_what i_at i_end i_worth i_faultKind i_faultPlace i_got i_worked (nI dl) i_isPlanned u_108 u_109)), (q 51, .inl (E.2.1 0, 512, .inl a_least)), (q 55, .inl (E.2.1 0, 4, .inl (upd u_110 (Int32.toNatClampNeg 3) x_123))), (q 54, .inl (E.2.1 0, 7, .inl u_111)), (q 53, .inl (E.2.1 0, 7, .inl u_112))] := hD
    obtain ⟨f_124, ef_124⟩ : ∃ g : Nat → Int32, g = upd u_110 (Int32.toNatClampNeg 3) x_123 := ⟨_, rfl⟩
    rw [← ef_124] at hP hD
    have hI_125 : ∀ k : Nat, k < 4 → inR (f_124 k) 0 127 = true := by rw [ef_124]; exact all_upd (P := fun z => inR z 0 127 = true) hf_113 (by rw [ex_123]; exact and_lt7 _ (by omega) 5 (by decide))
    have hb3 : ∀ i : Nat, i < 4 → f_124 i = a_sets i := gback_of (u := u_110) (x := x_123) (y := nI w_118) (z := (-33)) (by decide) (by decide) ⟨gp, hSt⟩ hp3 hf_114 (ef_124.trans (by rw [show Int32.toNatClampNeg 3 = 3 from by decide])) ex_123 (ex_116.trans (by rw [show Int32.toNatClampNeg 3 = 3 from by decide])) (by decide)
    refine lv_iinc (v := 4) (lv' := [(2, .int 4), (0, .ref h0), (1, .int 5)]) hx hb dX12_give_217 hl (k := 0) rfl (by decide) (by decide) rfl (fun ls hl => ?_)
    refine lv_goto (tgt := 172) hx hb dX12_give_220 (by decide) ?_
    refine lv_iload_n hx hb dX12_give_172 rfl (lv_at hl 0 rfl) ?_
    refine lv_iconst (v := 4) hx hb dX12_give_173 (by decide) ?_
    refine lv_icmp_ge (tgt := 223) hx hb dX12_give_174 (by decide) (fun _ => ?_) (fun c9 => absurd c9 (by decide))
    refine lv_aload_n hx hb dX12_give_223 rfl (lv_at hl 1 rfl) ?_
    refine va_get (D := E.1) (ci := 12) (v := .ref (q 53)) (C := RX12) (T := TX12) (N := 59) hx hb hts inX12 hown hK hP 0 rfl rfl 53 (by decide) fl136 (fun _ h9 => h9) rfl dX12_give_224 ?_
    refine lv_iload_n hx hb dX12_give_227 rfl (lv_at hl 2 rfl) ?_
    refine lv_iconst (v := (-1)) hx hb dX12_give_228 (by decide) ?_
    refine va_iast hx hb hK hP hD hS 4 0 rfl rfl (show vp_in 5 7 from by unfold vp_in; decide) dX12_give_229 (fun H locs hP hD hS => ?_)
    have hP : va_P E.1 vwCl [(h0, .inr (12, mG q i_taped i_size i_sort i_what i_at i_end i_worth i_faultKind i_faultPlace i_got i_worked (nI dl) i_isPlanned u_108 u_109)), (q 51, .inl (E.2.1 0, 512, .inl a_least)), (q 55, .inl (E.2.1 0, 4, .inl f_124)), (q 54, .inl (E.2.1 0, 7, .inl u_111)), (q 53, .inl (E.2.1 0, 7, .inl (upd u_112 (Int32.toNatClampNeg 5) (-1))))] H := hP
    have hD : va_D A [(h0, .inr (12, mG q i_taped i_size i_sort i_what i_at i_end i_worth i_faultKind i_faultPlace i_got i_worked (nI dl) i_isPlanned u_108 u_109)), (q 51, .inl (E.2.1 0, 512, .inl a_least)), (q 55, .inl (E.2.1 0, 4, .inl f_124)), (q 54, .inl (E.2.1 0, 7, .inl u_111)), (q 53, .inl (E.2.1 0, 7, .inl (upd u_112 (Int32.toNatClampNeg 5) (-1))))] := hD
    obtain ⟨f_126, ef_126⟩ : ∃ g : Nat → Int32, g = upd u_112 (Int32.toNatClampNeg 5) (-1) := ⟨_, rfl⟩
    rw [← ef_126] at hP hD
    refine lv_aload_n hx hb dX12_give_230 rfl (lv_at hl 1 rfl) ?_
    refine lv_iload_n hx hb dX12_give_231 rfl (lv_at hl 2 rfl) ?_
    refine lv_iconst (v := 1) hx hb dX12_give_232 (by decide) ?_
    refine lv_iadd hx hb dX12_give_233 ?_
    refine lv_topi (fun x_127 ex_127 => ?_)
    obtain rfl : x_127 = 6 := ex_127.trans (by decide +kernel)
    have hv4 : ∀ k : Nat, k < 5 + 1 → f_126 k = gI (pg gp 5 4 k) := gv_put (cur := u_112) (gv_cur (gv_cur (gv_cur (gv_cur (fun k hk => rfl) (ef_2.trans (by rw [show Int32.toNatClampNeg 5 = 5 from by decide])) hf_22) (ef_33.trans (by rw [show Int32.toNatClampNeg 5 = 5 from by decide])) hf_53) (ef_64.trans (by rw [show Int32.toNatClampNeg 5 = 5 from by decide])) hf_84) (ef_95.trans (by rw [show Int32.toNatClampNeg 5 = 5 from by decide])) hf_115) hGv (ef_126.trans (by rw [show Int32.toNatClampNeg 5 = 5 from by decide])) (by decide)
    have hPc := hP.sub (ws' := [(h0, .inr (12, mG q i_taped i_size i_sort i_what i_at i_end i_worth i_faultKind i_faultPlace i_got i_worked (nI dl) i_isPlanned u_108 u_109)), (q 51, .inl (E.2.1 0, 512, .inl a_least)), (q 55, .inl (E.2.1 0, 4, .inl f_124)), (q 54, .inl (E.2.1 0, 7, .inl u_111)), (q 53, .inl (E.2.1 0, 7, .inl f_126))]) [0, 1, 2, 3, 4] rfl
    have hDc := hD.sub (ws' := [(h0, .inr (12, mG q i_taped i_size i_sort i_what i_at i_end i_worth i_faultKind i_faultPlace i_got i_worked (nI dl) i_isPlanned u_108 u_109)), (q 51, .inl (E.2.1 0, 512, .inl a_least)), (q 55, .inl (E.2.1 0, 4, .inl f_124)), (q 54, .inl (E.2.1 0, 7, .inl u_111)), (q 53, .inl (E.2.1 0, 7, .inl f_126))]) [0, 1, 2, 3, 4] (by decide) rfl
    have hFc := va_free (wc := [(h0, .inr (12, mG q i_taped i_size i_sort i_what i_at i_end i_worth i_faultKind i_faultPlace i_got i_worked (nI dl) i_isPlanned u_108 u_109)), (q 51, .inl (E.2.1 0, 512, .inl a_least)), (q 55, .inl (E.2.1 0, 4, .inl f_124)), (q 54, .inl (E.2.1 0, 7, .inl u_111)), (q 53, .inl (E.2.1 0, 7, .inl f_126))]) hD hS hA [0, 1, 2, 3, 4] rfl
    refine va_callv (va_runV (As := [.int 6]) (rest := []) ⟨hx, hb, hml, hown, hts⟩ (c_X12_give6 l E h0 q i_taped i_size i_sort i_what i_at i_end i_worth i_faultKind i_faultPlace i_got i_worked i_isPlanned u_108 u_109 dl FF CC (pg gp 5 4) a_least f_124 u_111 f_126 H.size hdl hd2 (pg_le hp (by decide)) (st_none hSt hb3) hv4 (BG_M M_s hw_107) hKm hCb hI_125) (cwV 1 hts gX12_give_X12_give rfl rfl rfl hdV_X12_give ⟨Nat.le_of_ble_eq_true rfl, Nat.le_of_ble_eq_true rfl⟩) ⟨pcW_blind, va_recv hK hPc (ci := 12) (q0 := 0) rfl rfl, (pcW_pre hPc hkn hDc hst hS hFc)⟩ rfl rfl hl.1 rfl (lv_room (Nat.le_of_ble_eq_true rfl)) dX12_give_234 ⟨Nat.le_of_ble_eq_true rfl, Nat.le_of_ble_eq_true rfl⟩) hS (fun q _ h => hFc q h) hFc (fun u t H1 locs ht hvm hw_129 hB hz1 hk1 hS => ?_)
    obtain ⟨u_130, u_131, u_132, u_133, u_134⟩ := u
    obtain ⟨hf_135, hf_136, hf_137, hP1, hD1⟩ := hB
    rw [ht] at hP1
    try dsimp only at hw_129
    obtain ⟨hP, hD⟩ := va_join (wr := []) (w1 := [(h0, .inr (12, mG q i_taped i_size i_sort i_what i_at i_end i_worth i_faultKind i_faultPlace i_got i_worked (nI dl) i_isPlanned u_130 u_131)), (q 51, .inl (E.2.1 0, 512, .inl a_least)), (q 55, .inl (E.2.1 0, 4, .inl u_132)), (q 54, .inl (E.2.1 0, 7, .inl u_133)), (q 53, .inl (E.2.1 0, 7, .inl u_134))]) hP hD [0, 1, 2, 3, 4] [] rfl rfl (by decide) (by decide) hk1 hFc hP1 hD1
    generalize H1 = H at hP hS ⊢
    have hP : va_P E.1 vwCl [(h0, .inr (12, mG q i_taped i_size i_sort i_what i_at i_end i_worth i_faultKind i_faultPlace i_got i_worked (nI dl) i_isPlanned u_130 u_131)), (q 51, .inl (E.2.1 0, 512, .inl a_least)), (q 55, .inl (E.2.1 0, 4, .inl u_132)), (q 54, .inl (E.2.1 0, 7, .inl u_133)), (q 53, .inl (E.2.1 0, 7, .inl u_134))] H := hP
    have hD : va_D A [(h0, .inr (12, mG q i_taped i_size i_sort i_what i_at i_end i_worth i_faultKind i_faultPlace i_got i_worked (nI dl) i_isPlanned u_130 u_131)), (q 51, .inl (E.2.1 0, 512, .inl a_least)), (q 55, .inl (E.2.1 0, 4, .inl u_132)), (q 54, .inl (E.2.1 0, 7, .inl u_133)), (q 53, .inl (E.2.1 0, 7, .inl u_134))] := hD
    have hP9 := hP.sub (ws' := [(h0, .inr (12, mG q i_taped i_size i_sort i_what i_at i_end i_worth i_faultKind i_faultPlace i_got i_worked (nI dl) i_isPlanned u_130 u_131)), (q 51, .inl (E.2.1 0, 512, .inl a_least)), (q 55, .inl (E.2.1 0, 4, .inl u_132)), (q 54, .inl (E.2.1 0, 7, .inl u_133)), (q 53, .inl (E.2.1 0, 7, .inl u_134))]) [0, 1, 2, 3, 4] rfl
    have hD9 := hD.sub (ws' := [(h0, .inr (12, mG q i_taped i_size i_sort i_what i_at i_end i_worth i_faultKind i_faultPlace i_got i_worked (nI dl) i_isPlanned u_130 u_131)), (q 51, .inl (E.2.1 0, 512, .inl a_least)), (q 55, .inl (E.2.1 0, 4, .inl u_132)), (q 54, .inl (E.2.1 0, 7, .inl u_133)), (q 53, .inl (E.2.1 0, 7, .inl u_134))]) [0, 1, 2, 3, 4] (by decide) rfl
    exact W.vret hx hb hr (fun t ht hW => ⟨⟨(u_130, u_131, u_132, u_133, u_134), rfl, (BG_M (M_5 hd2) hw_129), hf_135, (fun i hi => (hf_136 i hi).trans (hb3 i hi)), (gv_cur (gv_cur (gv_cur (gv_cur (gv_cur (fun k hk => rfl) (ef_2.trans (by rw [show Int32.toNatClampNeg 5 = 5 from by decide])) hf_22) (ef_33.trans (by rw [show Int32.toNatClampNeg 5 = 5 from by decide])) hf_53) (ef_64.trans (by rw [show Int32.toNatClampNeg 5 = 5 from by decide])) hf_84) (ef_95.trans (by rw [show Int32.toNatClampNeg 5 = 5 from by decide])) hf_115) (ef_126.trans (by rw [show Int32.toNatClampNeg 5 = 5 from by decide])) hf_137), by rw [ht]; exact hP9, hD9⟩, hS.F ht⟩) hS.2.2 dX12_give_237
  · have hn9 : dl = 5 := ((nI_eq (a := 5) (by decide) (by omega)).mp c_1).symm
    have hB9 := BG_pre hn9 hBG
    have hp9 : ∀ k : Nat, k < dl → gp k ≤ 4 := fun k hk => hp k (by omega)
    refine lv_iconst (v := 0) hx hb dX12_give_8 (by decide) ?_
    refine lv_istore_n (lv' := [(2, .int 0), (0, .ref h0), (1, .int 5)]) hx hb dX12_give_9 rfl hl (by decide) rfl (fun ls hl => ?_)
    refine lv_iconst (v := 0) hx hb dX12_give_10 (by decide) ?_
    refine lv_istore_n (lv' := [(3, .int 0), (2, .int 0), (0, .ref h0), (1, .int 5)]) hx hb dX12_give_11 rfl hl (by decide) rfl (fun ls hl => ?_)
    refine lv_iconst (v := 0) hx hb dX12_give_12 (by decide) ?_
    refine lv_istore (lv' := [(4, .int 0), (3, .int 0), (2, .int 0), (0, .ref h0), (1, .int 5)]) hx hb dX12_give_13 hl (by decide) rfl (fun ls hl => ?_)
    refine lv_iload hx hb dX12_give_15 (lv_at hl 0 rfl) ?_
    refine lv_iconst (v := 4) hx hb dX12_give_17 (by decide) ?_
    refine lv_icmp_ge (tgt := 102) hx hb dX12_give_18 (by decide) (fun c9 => absurd c9 (by decide)) (fun _ => ?_)
    refine lv_aload_n hx hb dX12_give_21 rfl (lv_at hl 3 rfl) ?_
    refine va_get (D := E.1) (ci := 12) (v := .ref (q 51)) (C := RX12) (T := TX12) (N := 59) hx hb hts inX12 hown hK hP 0 rfl rfl 51 (by decide) fl130 (fun _ h9 => h9) rfl dX12_give_22 ?_
    refine lv_sipush (v := 128) hx hb dX12_give_25 (by decide) ?_
    refine lv_iload hx hb dX12_give_28 (lv_at hl 0 rfl) ?_
    refine lv_imul hx hb dX12_give_30 ?_
    refine lv_topi (fun x_138 ex_138 => ?_)
    obtain rfl : x_138 = 0 := ex_138.trans (by decide +kernel)
    refine lv_aload_n hx hb dX12_give_31 rfl (lv_at hl 3 rfl) ?_
    refine va_get (D := E.1) (ci := 12) (v := .ref (q 55)) (C := RX12) (T := TX12) (N := 59) hx hb hts inX12 hown hK hP 0 rfl rfl 55 (by decide) fl142 (fun _ h9 => h9) rfl dX12_give_32 ?_
    refine lv_iload hx hb dX12_give_35 (lv_at hl 0 rfl) ?_
    refine va_iald hx hb hK hP 2 0 rfl rfl (show vp_in 0 4 from by unfold vp_in; decide) dX12_give_37 ?_
    refine lv_topi (fun x_139 ex_139 => ?_)
    have hv_140 : inR x_139 0 127 = true := by rw [ex_139]; exact hI_sets _ (vin_cl (show vp_in 0 4 from by unfold vp_in; decide))
    obtain ⟨w_141, hw_142, ew_143⟩ := inR_nI (n := 127) (by decide) hv_140
    subst ew_143
    have hw09 : w_141 = setOf gp 0 dl := by rw [hn9]; exact nI_inj (by omega) (s128 gp 0 (by decide)) (ex_139.trans (by rw [show Int32.toNatClampNeg 0 = 0 from by decide]; exact hSt 0 (by decide)))
    refine lv_iadd hx hb dX12_give_38 ?_
    refine lv_topi (fun x_144 ex_144 => ?_)
    obtain rfl : x_144 = nI (0 + w_141) := ex_144.trans (nI_add 0 w_141)
    have hi_145 : vp_in (nI (0 + w_141)) 512 := vp_in_nI (by omega) (by decide)
    refine va_iald hx hb hK hP 1 0 rfl rfl hi_145 dX12_give_39 ?_
    refine lv_topi (fun x_146 ex_146 => ?_)
    refine lv_iconst (v := (-1)) hx hb dX12_give_40 (by decide) ?_
    refine lv_icmp_ne (tgt := 45) hx hb dX12_give_41 (by decide) (fun c_147 => ?_) (fun c_147 => ?_)
    · have hn09 : ¬ a_least (128 * 0 + w_141) = -1 := fun q9 => c_147 (ex_146.trans (by rw [nI_clamp (by omega)]; exact q9))
      have hk0 : FF 0 (setOf gp 0 dl) := by rw [← hw09]; exact (hKm 0 (by decide) w_141 (by omega)).1.mp hn09
      refine lv_iload_n hx hb dX12_give_45 rfl (lv_at hl 1 rfl) ?_
      refine lv_aload_n hx hb dX12_give_46 rfl (lv_at hl 3 rfl) ?_
      refine va_get (D := E.1) (ci := 12) (v := .ref (q 51)) (C := RX12) (T := TX12) (N := 59) hx hb hts inX12 hown hK hP 0 rfl rfl 51 (by decide) fl130 (fun _ h9 => h9) rfl dX12_give_47 ?_
      refine lv_sipush (v := 128) hx hb dX12_give_50 (by decide) ?_
      refine lv_iload hx hb dX12_give_53 (lv_at hl 0 rfl) ?_
      refine lv_imul hx hb dX12_give_55 ?_
      refine lv_topi (fun x_148 ex_148 => ?_)
      obtain rfl : x_148 = 0 := ex_148.trans (by decide +kernel)
      refine lv_aload_n hx hb dX12_give_56 rfl (lv_at hl 3 rfl) ?_
      refine va_get (D := E.1) (ci := 12) (v := .ref (q 55)) (C := RX12) (T := TX12) (N := 59) hx hb hts inX12 hown hK hP 0 rfl rfl 55 (by decide) fl142 (fun _ h9 => h9) rfl dX12_give_57 ?_
      refine lv_iload hx hb dX12_give_60 (lv_at hl 0 rfl) ?_
      refine va_iald hx hb hK hP 2 0 rfl rfl (show vp_in 0 4 from by unfold vp_in; decide) dX12_give_62 ?_
      refine lv_topi (fun x_149 ex_149 => ?_)
      obtain rfl : x_149 = nI w_141 := ex_149.trans ex_139.symm
      refine lv_iadd hx hb dX12_give_63 ?_
      refine lv_topi (fun x_150 ex_150 => ?_)
      obtain rfl : x_150 = nI (0 + w_141) := ex_150.trans (nI_add 0 w_141)
      refine va_iald hx hb hK hP 1 0 rfl rfl hi_145 dX12_give_64 ?_
      refine lv_topi (fun x_151 ex_151 => ?_)
      refine lv_iadd hx hb dX12_give_65 ?_
      refine lv_topi (fun x_152 ex_152 => ?_)
      have hc09 := cost_nx (c := 0) (c2 := 1) (co_0 CC gp dl) (x := x_151) (co2 := x_152) ((by rw [ex_151, nI_clamp (by omega)]; exact (hKm 0 (by decide) w_141 (by omega)).2 hn09 : x_151.toInt = CC 0 w_141).trans (by rw [hw09])) (hCb 0 (by decide) _ hk0) ex_152 rfl (by decide)
      refine lv_istore_n (lv' := [(3, .int x_152), (4, .int 0), (2, .int 0), (0, .ref h0), (1, .int 5)]) hx hb dX12_give_66 rfl hl (by decide) rfl (fun ls hl => ?_)
      refine lv_aload_n hx hb dX12_give_67 rfl (lv_at hl 3 rfl) ?_
      refine va_get (D := E.1) (ci := 12) (v := .ref (q 55)) (C := RX12) (T := TX12) (N := 59) hx hb hts inX12 hown hK hP 0 rfl rfl 55 (by decide) fl142 (fun _ h9 => h9) rfl dX12_give_68 ?_
      refine lv_iload hx hb dX12_give_71 (lv_at hl 1 rfl) ?_
      refine va_iald hx hb hK hP 2 0 rfl rfl (show vp_in 0 4 from by unfold vp_in; decide) dX12_give_73 ?_
      refine lv_topi (fun x_153 ex_153 => ?_)
      obtain rfl : x_153 = nI w_141 := ex_153.trans ex_139.symm
      refine lv_istore (lv' := [(5, .int (nI w_141)), (3, .int x_152), (4, .int 0), (2, .int 0), (0, .ref h0), (1, .int 5)]) hx hb dX12_give_74 hl (by decide) rfl (fun ls hl => ?_)
      have hPl := hP.sub (ws' := [(h0, .inr (12, mG q i_taped i_size i_sort i_what i_at i_end i_worth i_faultKind i_faultPlace i_got i_worked (nI dl) i_isPlanned i_bestDone i_bestCost)), (q 51, .inl (E.2.1 0, 512, .inl a_least)), (q 55, .inl (E.2.1 0, 4, .inl a_sets)), (q 54, .inl (E.2.1 0, 7, .inl a_bestGiven)), (q 53, .inl (E.2.1 0, 7, .inl a_given))]) [0, 1, 2, 3, 4] rfl
      have hDl := hD.sub (ws' := [(h0, .inr (12, mG q i_taped i_size i_sort i_what i_at i_end i_worth i_faultKind i_faultPlace i_got i_worked (nI dl) i_isPlanned i_bestDone i_bestCost)), (q 51, .inl (E.2.1 0, 512, .inl a_least)), (q 55, .inl (E.2.1 0, 4, .inl a_sets)), (q 54, .inl (E.2.1 0, 7, .inl a_bestGiven)), (q 53, .inl (E.2.1 0, 7, .inl a_given))]) [0, 1, 2, 3, 4] (by decide) rfl
      refine lm_bits E h0 q i_taped i_size i_sort i_what i_at i_end i_worth i_faultKind i_faultPlace i_got i_worked i_isPlanned i_bestDone i_bestCost dl (0 + pc7 w_141) x_152 0 ([(q 51, .inl (E.2.1 0, 512, .inl a_least)), (q 55, .inl (E.2.1 0, 4, .inl a_sets)), (q 54, .inl (E.2.1 0, 7, .inl a_bestGiven)), (q 53, .inl (E.2.1 0, 7, .inl a_given))]) hx hb hml hown hts hkn hst hA  (fun n_154 H locs ls hm hP hD hS hl => ?_) (w_141 + 1) w_141 0 _ _ _ (Nat.lt_succ_self _) (by omega) rfl hPl hDl hS (lv_sub hl [4, 3, 1, 2, 0] rfl)
      have hP : va_P E.1 vwCl [(h0, .inr (12, mG q i_taped i_size i_sort i_what i_at i_end i_worth i_faultKind i_faultPlace i_got i_worked (nI dl) i_isPlanned i_bestDone i_bestCost)), (q 51, .inl (E.2.1 0, 512, .inl a_least)), (q 55, .inl (E.2.1 0, 4, .inl a_sets)), (q 54, .inl (E.2.1 0, 7, .inl a_bestGiven)), (q 53, .inl (E.2.1 0, 7, .inl a_given))] H := hP
      have hD : va_D A [(h0, .inr (12, mG q i_taped i_size i_sort i_what i_at i_end i_worth i_faultKind i_faultPlace i_got i_worked (nI dl) i_isPlanned i_bestDone i_bestCost)), (q 51, .inl (E.2.1 0, 512, .inl a_least)), (q 55, .inl (E.2.1 0, 4, .inl a_sets)), (q 54, .inl (E.2.1 0, 7, .inl a_bestGiven)), (q 53, .inl (E.2.1 0, 7, .inl a_given))] := hD
      have hm0 := hm
      refine lv_iinc (v := 1) (lv' := [(4, .int 1), (0, .ref h0), (2, .int (nI n_154)), (3, .int x_152)]) hx hb dX12_give_96 hl (k := 3) rfl (by decide) (by decide) rfl (fun ls hl => ?_)
      refine lv_goto (tgt := 15) hx hb dX12_give_99 (by decide) ?_
      refine lv_iload hx hb dX12_give_15 (lv_at hl 0 rfl) ?_
      refine lv_iconst (v := 4) hx hb dX12_give_17 (by decide) ?_
      refine lv_icmp_ge (tgt := 102) hx hb dX12_give_18 (by decide) (fun c9 => absurd c9 (by decide)) (fun _ => ?_)
      refine lv_aload_n hx hb dX12_give_21 rfl (lv_at hl 1 rfl) ?_
      refine va_get (D := E.1) (ci := 12) (v := .ref (q 51)) (C := RX12) (T := TX12) (N := 59) hx hb hts inX12 hown hK hP 0 rfl rfl 51 (by decide) fl130 (fun _ h9 => h9) rfl dX12_give_22 ?_
      refine lv_sipush (v := 128) hx hb dX12_give_25 (by decide) ?_
      refine lv_iload hx hb dX12_give_28 (lv_at hl 0 rfl) ?_
      refine lv_imul hx hb dX12_give_30 ?_
      refine lv_topi (fun x_155 ex_155 => ?_)
      obtain rfl : x_155 = 128 := ex_155.trans (by decide +kernel)
      refine lv_aload_n hx hb dX12_give_31 rfl (lv_at hl 1 rfl) ?_
      refine va_get (D := E.1) (ci := 12) (v := .ref (q 55)) (C := RX12) (T := TX12) (N := 59) hx hb hts inX12 hown hK hP 0 rfl rfl 55 (by decide) fl142 (fun _ h9 => h9) rfl dX12_give_32 ?_
      refine lv_iload hx hb dX12_give_35 (lv_at hl 0 rfl) ?_
      refine va_iald hx hb hK hP 2 0 rfl rfl (show vp_in 1 4 from by unfold vp_in; decide) dX12_give_37 ?_
      refine lv_topi (fun x_156 ex_156 => ?_)
      have hv_157 : inR x_156 0 127 = true := by rw [ex_156]; exact hI_sets _ (vin_cl (show vp_in 1 4 from by unfold vp_in; decide))
      obtain ⟨w_158, hw_159, ew_160⟩ := inR_nI (n := 127) (by decide) hv_157
      subst ew_160
      have hw19 : w_158 = setOf gp 1 dl := by rw [hn9]; exact nI_inj (by omega) (s128 gp 1 (by decide)) (ex_156.trans (by rw [show Int32.toNatClampNeg 1 = 1 from by decide]; exact hSt 1 (by decide)))
      refine lv_iadd hx hb dX12_give_38 ?_
      refine lv_topi (fun x_161 ex_161 => ?_)
      obtain rfl : x_161 = nI (128 + w_158) := ex_161.trans (nI_add 128 w_158)
      have hi_162 : vp_in (nI (128 + w_158)) 512 := vp_in_nI (by omega) (by decide)
      refine va_iald hx hb hK hP 1 0 rfl rfl hi_162 dX12_give_39 ?_
      refine lv_topi (fun x_163 ex_163 => ?_)
      refine lv_iconst (v := (-1)) hx hb dX12_give_40 (by decide) ?_
      refine lv_icmp_ne (tgt := 45) hx hb dX12_give_41 (by decide) (fun c_164 => ?_) (fun c_164 => ?_)
      · have hn19 : ¬ a_least (128 * 1 + w_158) = -1 := fun q9 => c_164 (ex_163.trans (by rw [nI_clamp (by omega)]; exact q9))
        have hk1 : FF 1 (setOf gp 1 dl) := by rw [← hw19]; exact (hKm 1 (by decide) w_158 (by omega)).1.mp hn19
        refine lv_iload_n hx hb dX12_give_45 rfl (lv_at hl 3 rfl) ?_
        refine lv_aload_n hx hb dX12_give_46 rfl (lv_at hl 1 rfl) ?_
        refine va_get (D := E.1) (ci := 12) (v := .ref (q 51)) (C := RX12) (T := TX12) (N := 59) hx hb hts inX12 hown hK hP 0 rfl rfl 51 (by decide) fl130 (fun _ h9 => h9) rfl dX12_give_47 ?_
        refine lv_sipush (v := 128) hx hb dX12_give_50 (by decide) ?_
        refine lv_iload hx hb dX12_give_53 (lv_at hl 0 rfl) ?_
        refine lv_imul hx hb dX12_give_55 ?_
        refine lv_topi (fun x_165 ex_165 => ?_)
        obtain rfl : x_165 = 128 := ex_165.trans (by decide +kernel)
        refine lv_aload_n hx hb dX12_give_56 rfl (lv_at hl 1 rfl) ?_
        refine va_get (D := E.1) (ci := 12) (v := .ref (q 55)) (C := RX12) (T := TX12) (N := 59) hx hb hts inX12 hown hK hP 0 rfl rfl 55 (by decide) fl142 (fun _ h9 => h9) rfl dX12_give_57 ?_
        refine lv_iload hx hb dX12_give_60 (lv_at hl 0 rfl) ?_
        refine va_iald hx hb hK hP 2 0 rfl rfl (show vp_in 1 4 from by unfold vp_in; decide) dX12_give_62 ?_
        refine lv_topi (fun x_166 ex_166 => ?_)
        obtain rfl : x_166 = nI w_158 := ex_166.trans ex_156.symm
        refine lv_iadd hx hb dX12_give_63 ?_
        refine lv_topi (fun x_167 ex_167 => ?_)
        obtain rfl : x_167 = nI (128 + w_158) := ex_167.trans (nI_add 128 w_158)
        refine va_iald hx hb hK hP 1 0 rfl rfl hi_162 dX12_give_64 ?_
        refine lv_topi (fun x_168 ex_168 => ?_)
        refine lv_iadd hx hb dX12_give_65 ?_
        refine lv_topi (fun x_169 ex_169 => ?_)
        have hc19 := cost_nx (c := 1) (c2 := 2) hc09 (x := x_168) (co2 := x_169) ((by rw [ex_168, nI_clamp (by omega)]; exact (hKm 1 (by decide) w_158 (by omega)).2 hn19 : x_168.toInt = CC 1 w_158).trans (by rw [hw19])) (hCb 1 (by decide) _ hk1) ex_169 rfl (by decide)
        refine lv_istore_n (lv' := [(3, .int x_169), (4, .int 1), (0, .ref h0), (2, .int (nI n_154))]) hx hb dX12_give_66 rfl hl (by decide) rfl (fun ls hl => ?_)
        refine lv_aload_n hx hb dX12_give_67 rfl (lv_at hl 2 rfl) ?_
        refine va_get (D := E.1) (ci := 12) (v := .ref (q 55)) (C := RX12) (T := TX12) (N := 59) hx hb hts inX12 hown hK hP 0 rfl rfl 55 (by decide) fl142 (fun _ h9 => h9) rfl dX12_give_68 ?_
        refine lv_iload hx hb dX12_give_71 (lv_at hl 1 rfl) ?_
        refine va_iald hx hb hK hP 2 0 rfl rfl (show vp_in 1 4 from by unfold vp_in; decide) dX12_give_73 ?_
        refine lv_topi (fun x_170 ex_170 => ?_)
        obtain rfl : x_170 = nI w_158 := ex_170.trans ex_156.symm
        refine lv_istore (lv' := [(5, .int (nI w_158)), (3, .int x_169), (4, .int 1), (0, .ref h0), (2, .int (nI n_154))]) hx hb dX12_give_74 hl (by decide) rfl (fun ls hl => ?_)
        have hPl := hP.sub (ws' := [(h0, .inr (12, mG q i_taped i_size i_sort i_what i_at i_end i_worth i_faultKind i_faultPlace i_got i_worked (nI dl) i_isPlanned i_bestDone i_bestCost)), (q 51, .inl (E.2.1 0, 512, .inl a_least)), (q 55, .inl (E.2.1 0, 4, .inl a_sets)), (q 54, .inl (E.2.1 0, 7, .inl a_bestGiven)), (q 53, .inl (E.2.1 0, 7, .inl a_given))]) [0, 1, 2, 3, 4] rfl
        have hDl := hD.sub (ws' := [(h0, .inr (12, mG q i_taped i_size i_sort i_what i_at i_end i_worth i_faultKind i_faultPlace i_got i_worked (nI dl) i_isPlanned i_bestDone i_bestCost)), (q 51, .inl (E.2.1 0, 512, .inl a_least)), (q 55, .inl (E.2.1 0, 4, .inl a_sets)), (q 54, .inl (E.2.1 0, 7, .inl a_bestGiven)), (q 53, .inl (E.2.1 0, 7, .inl a_given))]) [0, 1, 2, 3, 4] (by decide) rfl
        refine lm_bits E h0 q i_taped i_size i_sort i_what i_at i_end i_worth i_faultKind i_faultPlace i_got i_worked i_isPlanned i_bestDone i_bestCost dl (n_154 + pc7 w_158) x_169 1 ([(q 51, .inl (E.2.1 0, 512, .inl a_least)), (q 55, .inl (E.2.1 0, 4, .inl a_sets)), (q 54, .inl (E.2.1 0, 7, .inl a_bestGiven)), (q 53, .inl (E.2.1 0, 7, .inl a_given))]) hx hb hml hown hts hkn hst hA  (fun n_171 H locs ls hm hP hD hS hl => ?_) (w_158 + 1) w_158 n_154 _ _ _ (Nat.lt_succ_self _) (by omega) rfl hPl hDl hS (lv_sub hl [3, 4, 1, 2, 0] rfl)
        have hP : va_P E.1 vwCl [(h0, .inr (12, mG q i_taped i_size i_sort i_what i_at i_end i_worth i_faultKind i_faultPlace i_got i_worked (nI dl) i_isPlanned i_bestDone i_bestCost)), (q 51, .inl (E.2.1 0, 512, .inl a_least)), (q 55, .inl (E.2.1 0, 4, .inl a_sets)), (q 54, .inl (E.2.1 0, 7, .inl a_bestGiven)), (q 53, .inl (E.2.1 0, 7, .inl a_given))] H := hP
        have hD : va_D A [(h0, .inr (12, mG q i_taped i_size i_sort i_what i_at i_end i_worth i_faultKind i_faultPlace i_got i_worked (nI dl) i_isPlanned i_bestDone i_bestCost)), (q 51, .inl (E.2.1 0, 512, .inl a_least)), (q 55, .inl (E.2.1 0, 4, .inl a_sets)), (q 54, .inl (E.2.1 0, 7, .inl a_bestGiven)), (q 53, .inl (E.2.1 0, 7, .inl a_given))] := hD
        have hm1 := hm
        refine lv_iinc (v := 2) (lv' := [(4, .int 2), (0, .ref h0), (2, .int (nI n_171)), (3, .int x_169)]) hx hb dX12_give_96 hl (k := 3) rfl (by decide) (by decide) rfl (fun ls hl => ?_)
        refine lv_goto (tgt := 15) hx hb dX12_give_99 (by decide) ?_
        refine lv_iload hx hb dX12_give_15 (lv_at hl 0 rfl) ?_
        refine lv_iconst (v := 4) hx hb dX12_give_17 (by decide) ?_
        refine lv_icmp_ge (tgt := 102) hx hb dX12_give_18 (by decide) (fun c9 => absurd c9 (by decide)) (fun _ => ?_)
        refine lv_aload_n hx hb dX12_give_21 rfl (lv_at hl 1 rfl) ?_
        refine va_get (D := E.1) (ci := 12) (v := .ref (q 51)) (C := RX12) (T := TX12) (N := 59) hx hb hts inX12 hown hK hP 0 rfl rfl 51 (by decide) fl130 (fun _ h9 => h9) rfl dX12_give_22 ?_
        refine lv_sipush (v := 128) hx hb dX12_give_25 (by decide) ?_
        refine lv_iload hx hb dX12_give_28 (lv_at hl 0 rfl) ?_
        refine lv_imul hx hb dX12_give_30 ?_
        refine lv_topi (fun x_172 ex_172 => ?_)
        obtain rfl : x_172 = 256 := ex_172.trans (by decide +kernel)
        refine lv_aload_n hx hb dX12_give_31 rfl (lv_at hl 1 rfl) ?_
        refine va_get (D := E.1) (ci := 12) (v := .ref (q 55)) (C := RX12) (T := TX12) (N := 59) hx hb hts inX12 hown hK hP 0 rfl rfl 55 (by decide) fl142 (fun _ h9 => h9) rfl dX12_give_32 ?_
        refine lv_iload hx hb dX12_give_35 (lv_at hl 0 rfl) ?_
        refine va_iald hx hb hK hP 2 0 rfl rfl (show vp_in 2 4 from by unfold vp_in; decide) dX12_give_37 ?_
        refine lv_topi (fun x_173 ex_173 => ?_)
        have hv_174 : inR x_173 0 127 = true := by rw [ex_173]; exact hI_sets _ (vin_cl (show vp_in 2 4 from by unfold vp_in; decide))
        obtain ⟨w_175, hw_176, ew_177⟩ := inR_nI (n := 127) (by decide) hv_174
        subst ew_177
        have hw29 : w_175 = setOf gp 2 dl := by rw [hn9]; exact nI_inj (by omega) (s128 gp 2 (by decide)) (ex_173.trans (by rw [show Int32.toNatClampNeg 2 = 2 from by decide]; exact hSt 2 (by decide)))
        refine lv_iadd hx hb dX12_give_38 ?_
        refine lv_topi (fun x_178 ex_178 => ?_)
        obtain rfl : x_178 = nI (256 + w_175) := ex_178.trans (nI_add 256 w_175)
        have hi_179 : vp_in (nI (256 + w_175)) 512 := vp_in_nI (by omega) (by decide)
        refine va_iald hx hb hK hP 1 0 rfl rfl hi_179 dX12_give_39 ?_
        refine lv_topi (fun x_180 ex_180 => ?_)
        refine lv_iconst (v := (-1)) hx hb dX12_give_40 (by decide) ?_
        refine lv_icmp_ne (tgt := 45) hx hb dX12_give_41 (by decide) (fun c_181 => ?_) (fun c_181 => ?_)
        · have hn29 : ¬ a_least (128 * 2 + w_175) = -1 := fun q9 => c_181 (ex_180.trans (by rw [nI_clamp (by omega)]; exact q9))
          have hk2 : FF 2 (setOf gp 2 dl) := by rw [← hw29]; exact (hKm 2 (by decide) w_175 (by omega)).1.mp hn29
          refine lv_iload_n hx hb dX12_give_45 rfl (lv_at hl 3 rfl) ?_
          refine lv_aload_n hx hb dX12_give_46 rfl (lv_at hl 1 rfl) ?_
          refine va_get (D := E.1) (ci := 12) (v := .ref (q 51)) (C := RX12) (T := TX12) (N := 59) hx hb hts inX12 hown hK hP 0 rfl rfl 51 (by decide) fl130 (fun _ h9 => h9) rfl dX12_give_47 ?_
          refine lv_sipush (v := 128) hx hb dX12_give_50 (by decide) ?_
          refine lv_iload hx hb dX12_give_53 (lv_at hl 0 rfl) ?_
          refine lv_imul hx hb dX12_give_55 ?_
          refine lv_topi (fun x_182 ex_182 => ?_)
          obtain rfl : x_182 = 256 := ex_182.trans (by decide +kernel)
          refine lv_aload_n hx hb dX12_give_56 rfl (lv_at hl 1 rfl) ?_
          refine va_get (D := E.1) (ci := 12) (v := .ref (q 55)) (C := RX12) (T := TX12) (N := 59) hx hb hts inX12 hown hK hP 0 rfl rfl 55 (by decide) fl142 (fun _ h9 => h9) rfl dX12_give_57 ?_
          refine lv_iload hx hb dX12_give_60 (lv_at hl 0 rfl) ?_
          refine va_iald hx hb hK hP 2 0 rfl rfl (show vp_in 2 4 from by unfold vp_in; decide) dX12_give_62 ?_
          refine lv_topi (fun x_183 ex_183 => ?_)
          obtain rfl : x_183 = nI w_175 := ex_183.trans ex_173.symm
          refine lv_iadd hx hb dX12_give_63 ?_
          refine lv_topi (fun x_184 ex_184 => ?_)
          obtain rfl : x_184 = nI (256 + w_175) := ex_184.trans (nI_add 256 w_175)
          refine va_iald hx hb hK hP 1 0 rfl rfl hi_179 dX12_give_64 ?_
          refine lv_topi (fun x_185 ex_185 => ?_)
          refine lv_iadd hx hb dX12_give_65 ?_
          refine lv_topi (fun x_186 ex_186 => ?_)
          have hc29 := cost_nx (c := 2) (c2 := 3) hc19 (x := x_185) (co2 := x_186) ((by rw [ex_185, nI_clamp (by omega)]; exact (hKm 2 (by decide) w_175 (by omega)).2 hn29 : x_185.toInt = CC 2 w_175).trans (by rw [hw29])) (hCb 2 (by decide) _ hk2) ex_186 rfl (by decide)
          refine lv_istore_n (lv' := [(3, .int x_186), (4, .int 2), (0, .ref h0), (2, .int (nI n_171))]) hx hb dX12_give_66 rfl hl (by decide) rfl (fun ls hl => ?_)
          refine lv_aload_n hx hb dX12_give_67 rfl (lv_at hl 2 rfl) ?_
          refine va_get (D := E.1) (ci := 12) (v := .ref (q 55)) (C := RX12) (T := TX12) (N := 59) hx hb hts inX12 hown hK hP 0 rfl rfl 55 (by decide) fl142 (fun _ h9 => h9) rfl dX12_give_68 ?_
          refine lv_iload hx hb dX12_give_71 (lv_at hl 1 rfl) ?_
          refine va_iald hx hb hK hP 2 0 rfl rfl (show vp_in 2 4 from by unfold vp_in; decide) dX12_give_73 ?_
          refine lv_topi (fun x_187 ex_187 => ?_)
          obtain rfl : x_187 = nI w_175 := ex_187.trans ex_173.symm
          refine lv_istore (lv' := [(5, .int (nI w_175)), (3, .int x_186), (4, .int 2), (0, .ref h0), (2, .int (nI n_171))]) hx hb dX12_give_74 hl (by decide) rfl (fun ls hl => ?_)
          have hPl := hP.sub (ws' := [(h0, .inr (12, mG q i_taped i_size i_sort i_what i_at i_end i_worth i_faultKind i_faultPlace i_got i_worked (nI dl) i_isPlanned i_bestDone i_bestCost)), (q 51, .inl (E.2.1 0, 512, .inl a_least)), (q 55, .inl (E.2.1 0, 4, .inl a_sets)), (q 54, .inl (E.2.1 0, 7, .inl a_bestGiven)), (q 53, .inl (E.2.1 0, 7, .inl a_given))]) [0, 1, 2, 3, 4] rfl
          have hDl := hD.sub (ws' := [(h0, .inr (12, mG q i_taped i_size i_sort i_what i_at i_end i_worth i_faultKind i_faultPlace i_got i_worked (nI dl) i_isPlanned i_bestDone i_bestCost)), (q 51, .inl (E.2.1 0, 512, .inl a_least)), (q 55, .inl (E.2.1 0, 4, .inl a_sets)), (q 54, .inl (E.2.1 0, 7, .inl a_bestGiven)), (q 53, .inl (E.2.1 0, 7, .inl a_given))]) [0, 1, 2, 3, 4] (by decide) rfl
          refine lm_bits E h0 q i_taped i_size i_sort i_what i_at i_end i_worth i_faultKind i_faultPlace i_got i_worked i_isPlanned i_bestDone i_bestCost dl (n_171 + pc7 w_175) x_186 2 ([(q 51, .inl (E.2.1 0, 512, .inl a_least)), (q 55, .inl (E.2.1 0, 4, .inl a_sets)), (q 54, .inl (E.2.1 0, 7, .inl a_bestGiven)), (q 53, .inl (E.2.1 0, 7, .inl a_given))]) hx hb hml hown hts hkn hst hA  (fun n_188 H locs ls hm hP hD hS hl => ?_) (w_175 + 1) w_175 n_171 _ _ _ (Nat.lt_succ_self _) (by omega) rfl hPl hDl hS (lv_sub hl [3, 4, 1, 2, 0] rfl)
          have hP : va_P E.1 vwCl [(h0, .inr (12, mG q i_taped i_size i_sort i_what i_at i_end i_worth i_faultKind i_faultPlace i_got i_worked (nI dl) i_isPlanned i_bestDone i_bestCost)), (q 51, .inl (E.2.1 0, 512, .inl a_least)), (q 55, .inl (E.2.1 0, 4, .inl a_sets)), (q 54, .inl (E.2.1 0, 7, .inl a_bestGiven)), (q 53, .inl (E.2.1 0, 7, .inl a_given))] H := hP
          have hD : va_D A [(h0, .inr (12, mG q i_taped i_size i_sort i_what i_at i_end i_worth i_faultKind i_faultPlace i_got i_worked (nI dl) i_isPlanned i_bestDone i_bestCost)), (q 51, .inl (E.2.1 0, 512, .inl a_least)), (q 55, .inl (E.2.1 0, 4, .inl a_sets)), (q 54, .inl (E.2.1 0, 7, .inl a_bestGiven)), (q 53, .inl (E.2.1 0, 7, .inl a_given))] := hD
          have hm2 := hm
          refine lv_iinc (v := 3) (lv' := [(4, .int 3), (0, .ref h0), (2, .int (nI n_188)), (3, .int x_186)]) hx hb dX12_give_96 hl (k := 3) rfl (by decide) (by decide) rfl (fun ls hl => ?_)
          refine lv_goto (tgt := 15) hx hb dX12_give_99 (by decide) ?_
          refine lv_iload hx hb dX12_give_15 (lv_at hl 0 rfl) ?_
          refine lv_iconst (v := 4) hx hb dX12_give_17 (by decide) ?_
          refine lv_icmp_ge (tgt := 102) hx hb dX12_give_18 (by decide) (fun c9 => absurd c9 (by decide)) (fun _ => ?_)
          refine lv_aload_n hx hb dX12_give_21 rfl (lv_at hl 1 rfl) ?_
          refine va_get (D := E.1) (ci := 12) (v := .ref (q 51)) (C := RX12) (T := TX12) (N := 59) hx hb hts inX12 hown hK hP 0 rfl rfl 51 (by decide) fl130 (fun _ h9 => h9) rfl dX12_give_22 ?_
          refine lv_sipush (v := 128) hx hb dX12_give_25 (by decide) ?_
          refine lv_iload hx hb dX12_give_28 (lv_at hl 0 rfl) ?_
          refine lv_imul hx hb dX12_give_30 ?_
          refine lv_topi (fun x_189 ex_189 => ?_)
          obtain rfl : x_189 = 384 := ex_189.trans (by decide +kernel)
          refine lv_aload_n hx hb dX12_give_31 rfl (lv_at hl 1 rfl) ?_
          refine va_get (D := E.1) (ci := 12) (v := .ref (q 55)) (C := RX12) (T := TX12) (N := 59) hx hb hts inX12 hown hK hP 0 rfl rfl 55 (by decide) fl142 (fun _ h9 => h9) rfl dX12_give_32 ?_
          refine lv_iload hx hb dX12_give_35 (lv_at hl 0 rfl) ?_
          refine va_iald hx hb hK hP 2 0 rfl rfl (show vp_in 3 4 from by unfold vp_in; decide) dX12_give_37 ?_
          refine lv_topi (fun x_190 ex_190 => ?_)
          have hv_191 : inR x_190 0 127 = true := by rw [ex_190]; exact hI_sets _ (vin_cl (show vp_in 3 4 from by unfold vp_in; decide))
          obtain ⟨w_192, hw_193, ew_194⟩ := inR_nI (n := 127) (by decide) hv_191
          subst ew_194
          have hw39 : w_192 = setOf gp 3 dl := by rw [hn9]; exact nI_inj (by omega) (s128 gp 3 (by decide)) (ex_190.trans (by rw [show Int32.toNatClampNeg 3 = 3 from by decide]; exact hSt 3 (by decide)))
          refine lv_iadd hx hb dX12_give_38 ?_
          refine lv_topi (fun x_195 ex_195 => ?_)
          obtain rfl : x_195 = nI (384 + w_192) := ex_195.trans (nI_add 384 w_192)
          have hi_196 : vp_in (nI (384 + w_192)) 512 := vp_in_nI (by omega) (by decide)
          refine va_iald hx hb hK hP 1 0 rfl rfl hi_196 dX12_give_39 ?_
          refine lv_topi (fun x_197 ex_197 => ?_)
          refine lv_iconst (v := (-1)) hx hb dX12_give_40 (by decide) ?_
          refine lv_icmp_ne (tgt := 45) hx hb dX12_give_41 (by decide) (fun c_198 => ?_) (fun c_198 => ?_)
          · have hn39 : ¬ a_least (128 * 3 + w_192) = -1 := fun q9 => c_198 (ex_197.trans (by rw [nI_clamp (by omega)]; exact q9))
            have hk3 : FF 3 (setOf gp 3 dl) := by rw [← hw39]; exact (hKm 3 (by decide) w_192 (by omega)).1.mp hn39
            refine lv_iload_n hx hb dX12_give_45 rfl (lv_at hl 3 rfl) ?_
            refine lv_aload_n hx hb dX12_give_46 rfl (lv_at hl 1 rfl) ?_
            refine va_get (D := E.1) (ci := 12) (v := .ref (q 51)) (C := RX12) (T := TX12) (N := 59) hx hb hts inX12 hown hK hP 0 rfl rfl 51 (by decide) fl130 (fun _ h9 => h9) rfl dX12_give_47 ?_
            refine lv_sipush (v := 128) hx hb dX12_give_50 (by decide) ?_
            refine lv_iload hx hb dX12_give_53 (lv_at hl 0 rfl) ?_
            refine lv_imul hx hb dX12_give_55 ?_
            refine lv_topi (fun x_199 ex_199 => ?_)
            obtain rfl : x_199 = 384 := ex_199.trans (by decide +kernel)
            refine lv_aload_n hx hb dX12_give_56 rfl (lv_at hl 1 rfl) ?_
            refine va_get (D := E.1) (ci := 12) (v := .ref (q 55)) (C := RX12) (T := TX12) (N := 59) hx hb hts inX12 hown hK hP 0 rfl rfl 55 (by decide) fl142 (fun _ h9 => h9) rfl dX12_give_57 ?_
            refine lv_iload hx hb dX12_give_60 (lv_at hl 0 rfl) ?_
            refine va_iald hx hb hK hP 2 0 rfl rfl (show vp_in 3 4 from by unfold vp_in; decide) dX12_give_62 ?_
            refine lv_topi (fun x_200 ex_200 => ?_)
            obtain rfl : x_200 = nI w_192 := ex_200.trans ex_190.symm
            refine lv_iadd hx hb dX12_give_63 ?_
            refine lv_topi (fun x_201 ex_201 => ?_)
            obtain rfl : x_201 = nI (384 + w_192) := ex_201.trans (nI_add 384 w_192)
            refine va_iald hx hb hK hP 1 0 rfl rfl hi_196 dX12_give_64 ?_
            refine lv_topi (fun x_202 ex_202 => ?_)
            refine lv_iadd hx hb dX12_give_65 ?_
            refine lv_topi (fun x_203 ex_203 => ?_)
            have hc39 := cost_nx (c := 3) (c2 := 4) hc29 (x := x_202) (co2 := x_203) ((by rw [ex_202, nI_clamp (by omega)]; exact (hKm 3 (by decide) w_192 (by omega)).2 hn39 : x_202.toInt = CC 3 w_192).trans (by rw [hw39])) (hCb 3 (by decide) _ hk3) ex_203 rfl (by decide)
            refine lv_istore_n (lv' := [(3, .int x_203), (4, .int 3), (0, .ref h0), (2, .int (nI n_188))]) hx hb dX12_give_66 rfl hl (by decide) rfl (fun ls hl => ?_)
            refine lv_aload_n hx hb dX12_give_67 rfl (lv_at hl 2 rfl) ?_
            refine va_get (D := E.1) (ci := 12) (v := .ref (q 55)) (C := RX12) (T := TX12) (N := 59) hx hb hts inX12 hown hK hP 0 rfl rfl 55 (by decide) fl142 (fun _ h9 => h9) rfl dX12_give_68 ?_
            refine lv_iload hx hb dX12_give_71 (lv_at hl 1 rfl) ?_
            refine va_iald hx hb hK hP 2 0 rfl rfl (show vp_in 3 4 from by unfold vp_in; decide) dX12_give_73 ?_
            refine lv_topi (fun x_204 ex_204 => ?_)
            obtain rfl : x_204 = nI w_192 := ex_204.trans ex_190.symm
            refine lv_istore (lv' := [(5, .int (nI w_192)), (3, .int x_203), (4, .int 3), (0, .ref h0), (2, .int (nI n_188))]) hx hb dX12_give_74 hl (by decide) rfl (fun ls hl => ?_)
            have hPl := hP.sub (ws' := [(h0, .inr (12, mG q i_taped i_size i_sort i_what i_at i_end i_worth i_faultKind i_faultPlace i_got i_worked (nI dl) i_isPlanned i_bestDone i_bestCost)), (q 51, .inl (E.2.1 0, 512, .inl a_least)), (q 55, .inl (E.2.1 0, 4, .inl a_sets)), (q 54, .inl (E.2.1 0, 7, .inl a_bestGiven)), (q 53, .inl (E.2.1 0, 7, .inl a_given))]) [0, 1, 2, 3, 4] rfl
            have hDl := hD.sub (ws' := [(h0, .inr (12, mG q i_taped i_size i_sort i_what i_at i_end i_worth i_faultKind i_faultPlace i_got i_worked (nI dl) i_isPlanned i_bestDone i_bestCost)), (q 51, .inl (E.2.1 0, 512, .inl a_least)), (q 55, .inl (E.2.1 0, 4, .inl a_sets)), (q 54, .inl (E.2.1 0, 7, .inl a_bestGiven)), (q 53, .inl (E.2.1 0, 7, .inl a_given))]) [0, 1, 2, 3, 4] (by decide) rfl
            refine lm_bits E h0 q i_taped i_size i_sort i_what i_at i_end i_worth i_faultKind i_faultPlace i_got i_worked i_isPlanned i_bestDone i_bestCost dl (n_188 + pc7 w_192) x_203 3 ([(q 51, .inl (E.2.1 0, 512, .inl a_least)), (q 55, .inl (E.2.1 0, 4, .inl a_sets)), (q 54, .inl (E.2.1 0, 7, .inl a_bestGiven)), (q 53, .inl (E.2.1 0, 7, .inl a_given))]) hx hb hml hown hts hkn hst hA  (fun n_205 H locs ls hm hP hD hS hl => ?_) (w_192 + 1) w_192 n_188 _ _ _ (Nat.lt_succ_self _) (by omega) rfl hPl hDl hS (lv_sub hl [3, 4, 1, 2, 0] rfl)
            have hP : va_P E.1 vwCl [(h0, .inr (12, mG q i_taped i_size i_sort i_what i_at i_end i_worth i_faultKind i_faultPlace i_got i_worked (nI dl) i_isPlanned i_bestDone i_bestCost)), (q 51, .inl (E.2.1 0, 512, .inl a_least)), (q 55, .inl (E.2.1 0, 4, .inl a_sets)), (q 54, .inl (E.2.1 0, 7, .inl a_bestGiven)), (q 53, .inl (E.2.1 0, 7, .inl a_given))] H := hP
            have hD : va_D A [(h0, .inr (12, mG q i_taped i_size i_sort i_what i_at i_end i_worth i_faultKind i_faultPlace i_got i_worked (nI dl) i_isPlanned i_bestDone i_bestCost)), (q 51, .inl (E.2.1 0, 512, .inl a_least)), (q 55, .inl (E.2.1 0, 4, .inl a_sets)), (q 54, .inl (E.2.1 0, 7, .inl a_bestGiven)), (q 53, .inl (E.2.1 0, 7, .inl a_given))] := hD
            have hm3 := hm
            refine lv_iinc (v := 4) (lv' := [(4, .int 4), (0, .ref h0), (2, .int (nI n_205)), (3, .int x_203)]) hx hb dX12_give_96 hl (k := 3) rfl (by decide) (by decide) rfl (fun ls hl => ?_)
            refine lv_goto (tgt := 15) hx hb dX12_give_99 (by decide) ?_
            refine lv_iload hx hb dX12_give_15 (lv_at hl 0 rfl) ?_
            refine lv_iconst (v := 4) hx hb dX12_give_17 (by decide) ?_
            refine lv_icmp_ge (tgt := 102) hx hb dX12_give_18 (by decide) (fun _ => ?_) (fun c9 => absurd c9 (by decide))
            have p70 := pc7_le w_141 (by omega)
            have p71 := pc7_le w_158 (by omega)
            have p72 := pc7_le w_175 (by omega)
            have p73 := pc7_le w_192 (by omega)
            have hcn9 : n_205 = cnt gp dl := by rw [← pc_sum gp dl hdl, ← hw09, ← hw19, ← hw29, ← hw39]; omega
            refine lv_iload_n hx hb dX12_give_102 rfl (lv_at hl 2 rfl) ?_
            refine lv_aload_n hx hb dX12_give_103 rfl (lv_at hl 1 rfl) ?_
            refine va_get (D := E.1) (ci := 12) (v := .int i_bestDone) (C := RX12) (T := TX12) (N := 59) hx hb hts inX12 hown hK hP 0 rfl rfl 57 (by decide) fl300 (fun _ h9 => h9) rfl dX12_give_104 ?_
            refine lv_icmp_lt (tgt := 126) hx hb dX12_give_107 (by decide) (fun c_206 => ?_) (fun c_206 => ?_)
            · have hP9 := hP.sub (ws' := [(h0, .inr (12, mG q i_taped i_size i_sort i_what i_at i_end i_worth i_faultKind i_faultPlace i_got i_worked (nI dl) i_isPlanned i_bestDone i_bestCost)), (q 51, .inl (E.2.1 0, 512, .inl a_least)), (q 55, .inl (E.2.1 0, 4, .inl a_sets)), (q 54, .inl (E.2.1 0, 7, .inl a_bestGiven)), (q 53, .inl (E.2.1 0, 7, .inl a_given))]) [0, 1, 2, 3, 4] rfl
              have hD9 := hD.sub (ws' := [(h0, .inr (12, mG q i_taped i_size i_sort i_what i_at i_end i_worth i_faultKind i_faultPlace i_got i_worked (nI dl) i_isPlanned i_bestDone i_bestCost)), (q 51, .inl (E.2.1 0, 512, .inl a_least)), (q 55, .inl (E.2.1 0, 4, .inl a_sets)), (q 54, .inl (E.2.1 0, 7, .inl a_bestGiven)), (q 53, .inl (E.2.1 0, 7, .inl a_given))]) [0, 1, 2, 3, 4] (by decide) rfl
              exact W.vret hx hb hr (fun t ht hW => ⟨⟨(i_bestDone, i_bestCost, a_sets, a_bestGiven, a_given), rfl, (BG_post hn9 (BG_old hdl hp9 (Or.inl (by rw [← hcn9]; exact gx_lt (by omega) c_206)) hB9)), hI_sets, (fun i hi => rfl), (fun k hk => rfl), by rw [ht]; exact hP9, hD9⟩, hS.F ht⟩) hS.2.2 dX12_give_126
            · refine lv_iload_n hx hb dX12_give_110 rfl (lv_at hl 2 rfl) ?_
              refine lv_aload_n hx hb dX12_give_111 rfl (lv_at hl 1 rfl) ?_
              refine va_get (D := E.1) (ci := 12) (v := .int i_bestDone) (C := RX12) (T := TX12) (N := 59) hx hb hts inX12 hown hK hP 0 rfl rfl 57 (by decide) fl300 (fun _ h9 => h9) rfl dX12_give_112 ?_
              refine lv_icmp_ne (tgt := 127) hx hb dX12_give_115 (by decide) (fun c_207 => ?_) (fun c_207 => ?_)
              · refine lv_aload_n hx hb dX12_give_127 rfl (lv_at hl 1 rfl) ?_
                refine lv_iload_n hx hb dX12_give_128 rfl (lv_at hl 2 rfl) ?_
                refine va_put (D := E.1) (ci := 12) (v := .int (nI n_205)) (ty := .int) (C := RX12) (T := TX12) (N := 59) hx hb hts inX12 tyX12 tyX12_ok nmX12 hown hK hP hD hS 0 rfl rfl 57 (by decide) fl300 (fun _ h9 => h9) rfl (by decide +kernel) rfl rfl (Nat.le_of_ble_eq_true rfl) dX12_give_129 (fun H locs hP hD hS => ?_)
                have hP : va_P E.1 vwCl [(h0, .inr (12, mG q i_taped i_size i_sort i_what i_at i_end i_worth i_faultKind i_faultPlace i_got i_worked (nI dl) i_isPlanned (nI n_205) i_bestCost)), (q 51, .inl (E.2.1 0, 512, .inl a_least)), (q 55, .inl (E.2.1 0, 4, .inl a_sets)), (q 54, .inl (E.2.1 0, 7, .inl a_bestGiven)), (q 53, .inl (E.2.1 0, 7, .inl a_given))] H := hP
                have hD : va_D A [(h0, .inr (12, mG q i_taped i_size i_sort i_what i_at i_end i_worth i_faultKind i_faultPlace i_got i_worked (nI dl) i_isPlanned (nI n_205) i_bestCost)), (q 51, .inl (E.2.1 0, 512, .inl a_least)), (q 55, .inl (E.2.1 0, 4, .inl a_sets)), (q 54, .inl (E.2.1 0, 7, .inl a_bestGiven)), (q 53, .inl (E.2.1 0, 7, .inl a_given))] := hD
                refine lv_aload_n hx hb dX12_give_132 rfl (lv_at hl 1 rfl) ?_
                refine lv_iload_n hx hb dX12_give_133 rfl (lv_at hl 3 rfl) ?_
                refine va_put (D := E.1) (ci := 12) (v := .int x_203) (ty := .int) (C := RX12) (T := TX12) (N := 59) hx hb hts inX12 tyX12 tyX12_ok nmX12 hown hK hP hD hS 0 rfl rfl 58 (by decide) fl303 (fun _ h9 => h9) rfl (by decide +kernel) rfl rfl (Nat.le_of_ble_eq_true rfl) dX12_give_134 (fun H locs hP hD hS => ?_)
                have hP : va_P E.1 vwCl [(h0, .inr (12, mG q i_taped i_size i_sort i_what i_at i_end i_worth i_faultKind i_faultPlace i_got i_worked (nI dl) i_isPlanned (nI n_205) x_203)), (q 51, .inl (E.2.1 0, 512, .inl a_least)), (q 55, .inl (E.2.1 0, 4, .inl a_sets)), (q 54, .inl (E.2.1 0, 7, .inl a_bestGiven)), (q 53, .inl (E.2.1 0, 7, .inl a_given))] H := hP
                have hD : va_D A [(h0, .inr (12, mG q i_taped i_size i_sort i_what i_at i_end i_worth i_faultKind i_faultPlace i_got i_worked (nI dl) i_isPlanned (nI n_205) x_203)), (q 51, .inl (E.2.1 0, 512, .inl a_least)), (q 55, .inl (E.2.1 0, 4, .inl a_sets)), (q 54, .inl (E.2.1 0, 7, .inl a_bestGiven)), (q 53, .inl (E.2.1 0, 7, .inl a_given))] := hD
                refine lv_iconst (v := 0) hx hb dX12_give_137 (by decide) ?_
                refine lv_istore (lv' := [(4, .int 0), (0, .ref h0), (2, .int (nI n_205)), (3, .int x_203)]) hx hb dX12_give_138 hl (by decide) rfl (fun ls hl => ?_)
                have hPl := hP.sub (ws' := [(h0, .inr (12, mG q i_taped i_size i_sort i_what i_at i_end i_worth i_faultKind i_faultPlace i_got i_worked (nI dl) i_isPlanned (nI n_205) x_203)), (q 53, .inl (E.2.1 0, 7, .inl a_given)), (q 54, .inl (E.2.1 0, 7, .inl a_bestGiven)), (q 51, .inl (E.2.1 0, 512, .inl a_least)), (q 55, .inl (E.2.1 0, 4, .inl a_sets))]) [0, 4, 3, 1, 2] rfl
                have hDl := hD.sub (ws' := [(h0, .inr (12, mG q i_taped i_size i_sort i_what i_at i_end i_worth i_faultKind i_faultPlace i_got i_worked (nI dl) i_isPlanned (nI n_205) x_203)), (q 53, .inl (E.2.1 0, 7, .inl a_given)), (q 54, .inl (E.2.1 0, 7, .inl a_bestGiven)), (q 51, .inl (E.2.1 0, 512, .inl a_least)), (q 55, .inl (E.2.1 0, 4, .inl a_sets))]) [0, 4, 3, 1, 2] (by decide) rfl
                refine lm_copy E h0 q i_taped i_size i_sort i_what i_at i_end i_worth i_faultKind i_faultPlace i_got i_worked i_isPlanned (nI n_205) x_203 dl a_given ([(q 51, .inl (E.2.1 0, 512, .inl a_least)), (q 55, .inl (E.2.1 0, 4, .inl a_sets))]) hx hb hml hown hts hkn hst hA (by omega) (fun n_208 H locs ls hcp hP hD hS hl => ?_) 9 0 a_bestGiven _ _ _ (by omega) (by omega) (fun j hj => absurd hj (Nat.not_lt_zero j)) hPl hDl hS (lv_sub hl [1, 0] rfl)
                have hP : va_P E.1 vwCl [(h0, .inr (12, mG q i_taped i_size i_sort i_what i_at i_end i_worth i_faultKind i_faultPlace i_got i_worked (nI dl) i_isPlanned (nI n_205) x_203)), (q 53, .inl (E.2.1 0, 7, .inl a_given)), (q 54, .inl (E.2.1 0, 7, .inl n_208)), (q 51, .inl (E.2.1 0, 512, .inl a_least)), (q 55, .inl (E.2.1 0, 4, .inl a_sets))] H := hP
                have hD : va_D A [(h0, .inr (12, mG q i_taped i_size i_sort i_what i_at i_end i_worth i_faultKind i_faultPlace i_got i_worked (nI dl) i_isPlanned (nI n_205) x_203)), (q 53, .inl (E.2.1 0, 7, .inl a_given)), (q 54, .inl (E.2.1 0, 7, .inl n_208)), (q 51, .inl (E.2.1 0, 512, .inl a_least)), (q 55, .inl (E.2.1 0, 4, .inl a_sets))] := hD
                have hP9 := hP.sub (ws' := [(h0, .inr (12, mG q i_taped i_size i_sort i_what i_at i_end i_worth i_faultKind i_faultPlace i_got i_worked (nI dl) i_isPlanned (nI n_205) x_203)), (q 51, .inl (E.2.1 0, 512, .inl a_least)), (q 55, .inl (E.2.1 0, 4, .inl a_sets)), (q 54, .inl (E.2.1 0, 7, .inl n_208)), (q 53, .inl (E.2.1 0, 7, .inl a_given))]) [0, 3, 4, 2, 1] rfl
                have hD9 := hD.sub (ws' := [(h0, .inr (12, mG q i_taped i_size i_sort i_what i_at i_end i_worth i_faultKind i_faultPlace i_got i_worked (nI dl) i_isPlanned (nI n_205) x_203)), (q 51, .inl (E.2.1 0, 512, .inl a_least)), (q 55, .inl (E.2.1 0, 4, .inl a_sets)), (q 54, .inl (E.2.1 0, 7, .inl n_208)), (q 53, .inl (E.2.1 0, 7, .inl a_given))]) [0, 3, 4, 2, 1] (by decide) rfl
                exact W.vret hx hb hr (fun t ht hW => ⟨⟨(nI n_205, x_203, a_sets, n_208, a_given), rfl, (BG_post hn9 (BG_new hdl hp9 (F4_all hk0 hk1 hk2 hk3) (Or.inl (by rw [← hcn9]; exact gx_gt (by omega) c_206 c_207)) (by rw [← hcn9]) hc39.1 (fun j hj => (hcp j hj).trans (hGv j (by omega))) hB9)), hI_sets, (fun i hi => rfl), (fun k hk => rfl), by rw [ht]; exact hP9, hD9⟩, hS.F ht⟩) hS.2.2 dX12_give_169
              · refine lv_iload_n hx hb dX12_give_118 rfl (lv_at hl 3 rfl) ?_
                refine lv_aload_n hx hb dX12_give_119 rfl (lv_at hl 1 rfl) ?_
                refine va_get (D := E.1) (ci := 12) (v := .int i_bestCost) (C := RX12) (T := TX12) (N := 59) hx hb hts inX12 hown hK hP 0 rfl rfl 58 (by decide) fl303 (fun _ h9 => h9) rfl dX12_give_120 ?_
                refine lv_icmp_lt (tgt := 127) hx hb dX12_give_123 (by decide) (fun c_209 => ?_) (fun c_209 => ?_)
                · refine lv_aload_n hx hb dX12_give_127 rfl (lv_at hl 1 rfl) ?_
                  refine lv_iload_n hx hb dX12_give_128 rfl (lv_at hl 2 rfl) ?_
                  refine va_put (D := E.1) (ci := 12) (v := .int (nI n_205)) (ty := .int) (C := RX12) (T := TX12) (N := 59) hx hb hts inX12 tyX12 tyX12_ok nmX12 hown hK hP hD hS 0 rfl rfl 57 (by decide) fl300 (fun _ h9 => h9) rfl (by decide +kernel) rfl rfl (Nat.le_of_ble_eq_true rfl) dX12_give_129 (fun H locs hP hD hS => ?_)
                  have hP : va_P E.1 vwCl [(h0, .inr (12, mG q i_taped i_size i_sort i_what i_at i_end i_worth i_faultKind i_faultPlace i_got i_worked (nI dl) i_isPlanned (nI n_205) i_bestCost)), (q 51, .inl (E.2.1 0, 512, .inl a_least)), (q 55, .inl (E.2.1 0, 4, .inl a_sets)), (q 54, .inl (E.2.1 0, 7, .inl a_bestGiven)), (q 53, .inl (E.2.1 0, 7, .inl a_given))] H := hP
                  have hD : va_D A [(h0, .inr (12, mG q i_taped i_size i_sort i_what i_at i_end i_worth i_faultKind i_faultPlace i_got i_worked (nI dl) i_isPlanned (nI n_205) i_bestCost)), (q 51, .inl (E.2.1 0, 512, .inl a_least)), (q 55, .inl (E.2.1 0, 4, .inl a_sets)), (q 54, .inl (E.2.1 0, 7, .inl a_bestGiven)), (q 53, .inl (E.2.1 0, 7, .inl a_given))] := hD
                  refine lv_aload_n hx hb dX12_give_132 rfl (lv_at hl 1 rfl) ?_
                  refine lv_iload_n hx hb dX12_give_133 rfl (lv_at hl 3 rfl) ?_
                  refine va_put (D := E.1) (ci := 12) (v := .int x_203) (ty := .int) (C := RX12) (T := TX12) (N := 59) hx hb hts inX12 tyX12 tyX12_ok nmX12 hown hK hP hD hS 0 rfl rfl 58 (by decide) fl303 (fun _ h9 => h9) rfl (by decide +kernel) rfl rfl (Nat.le_of_ble_eq_true rfl) dX12_give_134 (fun H locs hP hD hS => ?_)
                  have hP : va_P E.1 vwCl [(h0, .inr (12, mG q i_taped i_size i_sort i_what i_at i_end i_worth i_faultKind i_faultPlace i_got i_worked (nI dl) i_isPlanned (nI n_205) x_203)), (q 51, .inl (E.2.1 0, 512, .inl a_least)), (q 55, .inl (E.2.1 0, 4, .inl a_sets)), (q 54, .inl (E.2.1 0, 7, .inl a_bestGiven)), (q 53, .inl (E.2.1 0, 7, .inl a_given))] H := hP
                  have hD : va_D A [(h0, .inr (12, mG q i_taped i_size i_sort i_what i_at i_end i_worth i_faultKind i_faultPlace i_got i_worked (nI dl) i_isPlanned (nI n_205) x_203)), (q 51, .inl (E.2.1 0, 512, .inl a_least)), (q 55, .inl (E.2.1 0, 4, .inl a_sets)), (q 54, .inl (E.2.1 0, 7, .inl a_bestGiven)), (q 53, .inl (E.2.1 0, 7, .inl a_given))] := hD
                  refine lv_iconst (v := 0) hx hb dX12_give_137 (by decide) ?_
                  refine lv_istore (lv' := [(4, .int 0), (0, .ref h0), (2, .int (nI n_205)), (3, .int x_203)]) hx hb dX12_give_138 hl (by decide) rfl (fun ls hl => ?_)
                  have hPl := hP.sub (ws' := [(h0, .inr (12, mG q i_taped i_size i_sort i_what i_at i_end i_worth i_faultKind i_faultPlace i_got i_worked (nI dl) i_isPlanned (nI n_205) x_203)), (q 53, .inl (E.2.1 0, 7, .inl a_given)), (q 54, .inl (E.2.1 0, 7, .inl a_bestGiven)), (q 51, .inl (E.2.1 0, 512, .inl a_least)), (q 55, .inl (E.2.1 0, 4, .inl a_sets))]) [0, 4, 3, 1, 2] rfl
                  have hDl := hD.sub (ws' := [(h0, .inr (12, mG q i_taped i_size i_sort i_what i_at i_end i_worth i_faultKind i_faultPlace i_got i_worked (nI dl) i_isPlanned (nI n_205) x_203)), (q 53, .inl (E.2.1 0, 7, .inl a_given)), (q 54, .inl (E.2.1 0, 7, .inl a_bestGiven)), (q 51, .inl (E.2.1 0, 512, .inl a_least)), (q 55, .inl (E.2.1 0, 4, .inl a_sets))]) [0, 4, 3, 1, 2] (by decide) rfl
                  refine lm_copy E h0 q i_taped i_size i_sort i_what i_at i_end i_worth i_faultKind i_faultPlace i_got i_worked i_isPlanned (nI n_205) x_203 dl a_given ([(q 51, .inl (E.2.1 0, 512, .inl a_least)), (q 55, .inl (E.2.1 0, 4, .inl a_sets))]) hx hb hml hown hts hkn hst hA (by omega) (fun n_210 H locs ls hcp hP hD hS hl => ?_) 9 0 a_bestGiven _ _ _ (by omega) (by omega) (fun j hj => absurd hj (Nat.not_lt_zero j)) hPl hDl hS (lv_sub hl [1, 0] rfl)
                  have hP : va_P E.1 vwCl [(h0, .inr (12, mG q i_taped i_size i_sort i_what i_at i_end i_worth i_faultKind i_faultPlace i_got i_worked (nI dl) i_isPlanned (nI n_205) x_203)), (q 53, .inl (E.2.1 0, 7, .inl a_given)), (q 54, .inl (E.2.1 0, 7, .inl n_210)), (q 51, .inl (E.2.1 0, 512, .inl a_least)), (q 55, .inl (E.2.1 0, 4, .inl a_sets))] H := hP
                  have hD : va_D A [(h0, .inr (12, mG q i_taped i_size i_sort i_what i_at i_end i_worth i_faultKind i_faultPlace i_got i_worked (nI dl) i_isPlanned (nI n_205) x_203)), (q 53, .inl (E.2.1 0, 7, .inl a_given)), (q 54, .inl (E.2.1 0, 7, .inl n_210)), (q 51, .inl (E.2.1 0, 512, .inl a_least)), (q 55, .inl (E.2.1 0, 4, .inl a_sets))] := hD
                  have hP9 := hP.sub (ws' := [(h0, .inr (12, mG q i_taped i_size i_sort i_what i_at i_end i_worth i_faultKind i_faultPlace i_got i_worked (nI dl) i_isPlanned (nI n_205) x_203)), (q 51, .inl (E.2.1 0, 512, .inl a_least)), (q 55, .inl (E.2.1 0, 4, .inl a_sets)), (q 54, .inl (E.2.1 0, 7, .inl n_210)), (q 53, .inl (E.2.1 0, 7, .inl a_given))]) [0, 3, 4, 2, 1] rfl
                  have hD9 := hD.sub (ws' := [(h0, .inr (12, mG q i_taped i_size i_sort i_what i_at i_end i_worth i_faultKind i_faultPlace i_got i_worked (nI dl) i_isPlanned (nI n_205) x_203)), (q 51, .inl (E.2.1 0, 512, .inl a_least)), (q 55, .inl (E.2.1 0, 4, .inl a_sets)), (q 54, .inl (E.2.1 0, 7, .inl n_210)), (q 53, .inl (E.2.1 0, 7, .inl a_given))]) [0, 3, 4, 2, 1] (by decide) rfl
                  exact W.vret hx hb hr (fun t ht hW => ⟨⟨(nI n_205, x_203, a_sets, n_210, a_given), rfl, (BG_post hn9 (BG_new hdl hp9 (F4_all hk0 hk1 hk2 hk3) (Or.inr ⟨(by rw [← hcn9]; exact (gx_eq (by omega) c_207).symm), (by rw [← hc39.1]; exact (ii_lt _ _).mp c_209)⟩) (by rw [← hcn9]) hc39.1 (fun j hj => (hcp j hj).trans (hGv j (by omega))) hB9)), hI_sets, (fun i hi => rfl), (fun k hk => rfl), by rw [ht]; exact hP9, hD9⟩, hS.F ht⟩) hS.2.2 dX12_give_169
                · have hP9 := hP.sub (ws' := [(h0, .inr (12, mG q i_taped i_size i_sort i_what i_at i_end i_worth i_faultKind i_faultPlace i_got i_worked (nI dl) i_isPlanned i_bestDone i_bestCost)), (q 51, .inl (E.2.1 0, 512, .inl a_least)), (q 55, .inl (E.2.1 0, 4, .inl a_sets)), (q 54, .inl (E.2.1 0, 7, .inl a_bestGiven)), (q 53, .inl (E.2.1 0, 7, .inl a_given))]) [0, 1, 2, 3, 4] rfl
                  have hD9 := hD.sub (ws' := [(h0, .inr (12, mG q i_taped i_size i_sort i_what i_at i_end i_worth i_faultKind i_faultPlace i_got i_worked (nI dl) i_isPlanned i_bestDone i_bestCost)), (q 51, .inl (E.2.1 0, 512, .inl a_least)), (q 55, .inl (E.2.1 0, 4, .inl a_sets)), (q 54, .inl (E.2.1 0, 7, .inl a_bestGiven)), (q 53, .inl (E.2.1 0, 7, .inl a_given))]) [0, 1, 2, 3, 4] (by decide) rfl
                  exact W.vret hx hb hr (fun t ht hW => ⟨⟨(i_bestDone, i_bestCost, a_sets, a_bestGiven, a_given), rfl, (BG_post hn9 (BG_old hdl hp9 (Or.inr ⟨(by rw [← hcn9]; exact gx_eq (by omega) c_207), (by rw [← hc39.1]; exact gx_le c_209)⟩) hB9)), hI_sets, (fun i hi => rfl), (fun k hk => rfl), by rw [ht]; exact hP9, hD9⟩, hS.F ht⟩) hS.2.2 dX12_give_126
          · have hP9 := hP.sub (ws' := [(h0, .inr (12, mG q i_taped i_size i_sort i_what i_at i_end i_worth i_faultKind i_faultPlace i_got i_worked (nI dl) i_isPlanned i_bestDone i_bestCost)), (q 51, .inl (E.2.1 0, 512, .inl a_least)), (q 55, .inl (E.2.1 0, 4, .inl a_sets)), (q 54, .inl (E.2.1 0, 7, .inl a_bestGiven)), (q 53, .inl (E.2.1 0, 7, .inl a_given))]) [0, 1, 2, 3, 4] rfl
            have hD9 := hD.sub (ws' := [(h0, .inr (12, mG q i_taped i_size i_sort i_what i_at i_end i_worth i_faultKind i_faultPlace i_got i_worked (nI dl) i_isPlanned i_bestDone i_bestCost)), (q 51, .inl (E.2.1 0, 512, .inl a_least)), (q 55, .inl (E.2.1 0, 4, .inl a_sets)), (q 54, .inl (E.2.1 0, 7, .inl a_bestGiven)), (q 53, .inl (E.2.1 0, 7, .inl a_given))]) [0, 1, 2, 3, 4] (by decide) rfl
            exact W.vret hx hb hr (fun t ht hW => ⟨⟨(i_bestDone, i_bestCost, a_sets, a_bestGiven, a_given), rfl, (BG_post hn9 (BG_inf hp9 (c := 3) (by decide) (fun q9 => absurd ((hKm 3 (by decide) w_192 (by omega)).1.mpr (by rw [hw39]; exact q9)) (fun r9 => r9 (by rw [← nI_clamp (n := 128 * 3 + w_192) (by omega)]; exact ex_197.symm.trans c_198))) hB9)), hI_sets, (fun i hi => rfl), (fun k hk => rfl), by rw [ht]; exact hP9, hD9⟩, hS.F ht⟩) hS.2.2 dX12_give_44
        · have hP9 := hP.sub (ws' := [(h0, .inr (12, mG q i_taped i_size i_sort i_what i_at i_end i_worth i_faultKind i_faultPlace i_got i_worked (nI dl) i_isPlanned i_bestDone i_bestCost)), (q 51, .inl (E.2.1 0, 512, .inl a_least)), (q 55, .inl (E.2.1 0, 4, .inl a_sets)), (q 54, .inl (E.2.1 0, 7, .inl a_bestGiven)), (q 53, .inl (E.2.1 0, 7, .inl a_given))]) [0, 1, 2, 3, 4] rfl
          have hD9 := hD.sub (ws' := [(h0, .inr (12, mG q i_taped i_size i_sort i_what i_at i_end i_worth i_faultKind i_faultPlace i_got i_worked (nI dl) i_isPlanned i_bestDone i_bestCost)), (q 51, .inl (E.2.1 0, 512, .inl a_least)), (q 55, .inl (E.2.1 0, 4, .inl a_sets)), (q 54, .inl (E.2.1 0, 7, .inl a_bestGiven)), (q 53, .inl (E.2.1 0, 7, .inl a_given))]) [0, 1, 2, 3, 4] (by decide) rfl
          exact W.vret hx hb hr (fun t ht hW => ⟨⟨(i_bestDone, i_bestCost, a_sets, a_bestGiven, a_given), rfl, (BG_post hn9 (BG_inf hp9 (c := 2) (by decide) (fun q9 => absurd ((hKm 2 (by decide) w_175 (by omega)).1.mpr (by rw [hw29]; exact q9)) (fun r9 => r9 (by rw [← nI_clamp (n := 128 * 2 + w_175) (by omega)]; exact ex_180.symm.trans c_181))) hB9)), hI_sets, (fun i hi => rfl), (fun k hk => rfl), by rw [ht]; exact hP9, hD9⟩, hS.F ht⟩) hS.2.2 dX12_give_44
      · have hP9 := hP.sub (ws' := [(h0, .inr (12, mG q i_taped i_size i_sort i_what i_at i_end i_worth i_faultKind i_faultPlace i_got i_worked (nI dl) i_isPlanned i_bestDone i_bestCost)), (q 51, .inl (E.2.1 0, 512, .inl a_least)), (q 55, .inl (E.2.1 0, 4, .inl a_sets)), (q 54, .inl (E.2.1 0, 7, .inl a_bestGiven)), (q 53, .inl (E.2.1 0, 7, .inl a_given))]) [0, 1, 2, 3, 4] rfl
        have hD9 := hD.sub (ws' := [(h0, .inr (12, mG q i_taped i_size i_sort i_what i_at i_end i_worth i_faultKind i_faultPlace i_got i_worked (nI dl) i_isPlanned i_bestDone i_bestCost)), (q 51, .inl (E.2.1 0, 512, .inl a_least)), (q 55, .inl (E.2.1 0, 4, .inl a_sets)), (q 54, .inl (E.2.1 0, 7, .inl a_bestGiven)), (q 53, .inl (E.2.1 0, 7, .inl a_given))]) [0, 1, 2, 3, 4] (by decide) rfl
        exact W.vret hx hb hr (fun t ht hW => ⟨⟨(i_bestDone, i_bestCost, a_sets, a_bestGiven, a_given), rfl, (BG_post hn9 (BG_inf hp9 (c := 1) (by decide) (fun q9 => absurd ((hKm 1 (by decide) w_158 (by omega)).1.mpr (by rw [hw19]; exact q9)) (fun r9 => r9 (by rw [← nI_clamp (n := 128 * 1 + w_158) (by omega)]; exact ex_163.symm.trans c_164))) hB9)), hI_sets, (fun i hi => rfl), (fun k hk => rfl), by rw [ht]; exact hP9, hD9⟩, hS.F ht⟩) hS.2.2 dX12_give_44
    · have hP9 := hP.sub (ws' := [(h0, .inr (12, mG q i_taped i_size i_sort i_what i_at i_end i_worth i_faultKind i_faultPlace i_got i_worked (nI dl) i_isPlanned i_bestDone i_bestCost)), (q 51, .inl (E.2.1 0, 512, .inl a_least)), (q 55, .inl (E.2.1 0, 4, .inl a_sets)), (q 54, .inl (E.2.1 0, 7, .inl a_bestGiven)), (q 53, .inl (E.2.1 0, 7, .inl a_given))]) [0, 1, 2, 3, 4] rfl
      have hD9 := hD.sub (ws' := [(h0, .inr (12, mG q i_taped i_size i_sort i_what i_at i_end i_worth i_faultKind i_faultPlace i_got i_worked (nI dl) i_isPlanned i_bestDone i_bestCost)), (q 51, .inl (E.2.1 0, 512, .inl a_least)), (q 55, .inl (E.2.1 0, 4, .inl a_sets)), (q 54, .inl (E.2.1 0, 7, .inl a_bestGiven)), (q 53, .inl (E.2.1 0, 7, .inl a_given))]) [0, 1, 2, 3, 4] (by decide) rfl
      exact W.vret hx hb hr (fun t ht hW => ⟨⟨(i_bestDone, i_bestCost, a_sets, a_bestGiven, a_given), rfl, (BG_post hn9 (BG_inf hp9 (c := 0) (by decide) (fun q9 => absurd ((hKm 0 (by decide) w_141 (by omega)).1.mpr (by rw [hw09]; exact q9)) (fun r9 => r9 (by rw [← nI_clamp (n := 128 * 0 + w_141) (by omega)]; exact ex_146.symm.trans c_147))) hB9)), hI_sets, (fun i hi => rfl), (fun k hk => rfl), by rw [ht]; exact hP9, hD9⟩, hS.F ht⟩) hS.2.2 dX12_give_44
set_option maxHeartbeats 4000000 in
set_option maxRecDepth 100000 in
theorem c_X12_give4 (l : Launch) (E : vE) (h0 : Nat) (q : Nat → Nat) (i_taped : Int32) (i_size : Int32) (i_sort : Int32) (i_what : Int32) (i_at : Int32) (i_end : Int32) (i_worth : Int32) (i_faultKind : Int32) (i_faultPlace : Int32) (i_got : Int32) (i_worked : Int32) (i_isPlanned : Int32) (i_bestDone : Int32) (i_bestCost : Int32) (dl : Nat) (FF : Nat → Nat → Prop) (CC : Nat → Nat → Int) (gp : Nat → Nat) (a_least : Nat → Int32) (a_sets : Nat → Int32) (a_bestGiven : Nat → Int32) (a_given : Nat → Int32) (sz : Nat) (hdl : dl ≤ 7) (hd : 4 ≤ dl) (hp : ∀ k : Nat, k < 4 → gp k ≤ 4) (hSt : ∀ i : Nat, i < 4 → a_sets i = nI (setOf gp i 4)) (hGv : ∀ k : Nat, k < 4 → a_given k = gI (gp k)) (hBG : BG FF CC dl (hN gp 4 * 5 ^ (dl - 4)) i_bestDone i_bestCost a_bestGiven) (hKm : ∀ i : Nat, i < 4 → ∀ z : Nat, z < 128 → ((¬ a_least (128 * i + z) = -1) ↔ FF i z) ∧ ((¬ a_least (128 * i + z) = -1) → (a_least (128 * i + z)).toInt = CC i z)) (hCb : ∀ i : Nat, i < 4 → ∀ z : Nat, FF i z → 0 ≤ CC i z ∧ CC i z ≤ 70000) (hI_sets : ∀ k : Nat, k < 4 → inR (a_sets k) 0 127 = true) : Met l yX12_give wsX12_give ({ frames := 3, cells := 0, slots := 0, locals := 75 }) (pcW E [.ref h0, .int 4] sz [(h0, .inr (12, mG q i_taped i_size i_sort i_what i_at i_end i_worth i_faultKind i_faultPlace i_got i_worked (nI dl) i_isPlanned i_bestDone i_bestCost)), (q 51, .inl (E.2.1 0, 512, .inl a_least)), (q 55, .inl (E.2.1 0, 4, .inl a_sets)), (q 54, .inl (E.2.1 0, 7, .inl a_bestGiven)), (q 53, .inl (E.2.1 0, 7, .inl a_given))]) (va_Qv (fun (u : Int32 × Int32 × (Nat → Int32) × (Nat → Int32) × (Nat → Int32)) => match u with | (bd2, bc2, b_sets, b_bestGiven, b_given) => BG FF CC dl ((hN gp 4 + 1) * 5 ^ (dl - 4)) bd2 bc2 b_bestGiven) (fun (u : Int32 × Int32 × (Nat → Int32) × (Nat → Int32) × (Nat → Int32)) (t : State) => match u with | (bd2, bc2, b_sets, b_bestGiven, b_given) => (∀ k : Nat, k < 4 → inR (b_sets k) 0 127 = true) ∧ (∀ i : Nat, i < 4 → b_sets i = a_sets i) ∧ (∀ k : Nat, k < 4 → b_given k = a_given k) ∧ wB E (va_A [(h0, .inr (12, mG q i_taped i_size i_sort i_what i_at i_end i_worth i_faultKind i_faultPlace i_got i_worked (nI dl) i_isPlanned i_bestDone i_bestCost)), (q 51, .inl (E.2.1 0, 512, .inl a_least)), (q 55, .inl (E.2.1 0, 4, .inl a_sets)), (q 54, .inl (E.2.1 0, 7, .inl a_bestGiven)), (q 53, .inl (E.2.1 0, 7, .inl a_given))] sz) [(h0, .inr (12, mG q i_taped i_size i_sort i_what i_at i_end i_worth i_faultKind i_faultPlace i_got i_worked (nI dl) i_isPlanned bd2 bc2)), (q 51, .inl (E.2.1 0, 512, .inl a_least)), (q 55, .inl (E.2.1 0, 4, .inl b_sets)), (q 54, .inl (E.2.1 0, 7, .inl b_bestGiven)), (q 53, .inl (E.2.1 0, 7, .inl b_given))] t) (va_A [(h0, .inr (12, mG q i_taped i_size i_sort i_what i_at i_end i_worth i_faultKind i_faultPlace i_got i_worked (nI dl) i_isPlanned i_bestDone i_bestCost)), (q 51, .inl (E.2.1 0, 512, .inl a_least)), (q 55, .inl (E.2.1 0, 4, .inl a_sets)), (q 54, .inl (E.2.1 0, 7, .inl a_bestGiven)), (q 53, .inl (E.2.1 0, 7, .inl a_given))] sz)) 0 0 (va_A [(h0, .inr (12, mG q i_taped i_size i_sort i_what i_at i_end i_worth i_faultKind i_faultPlace i_got i_worked (nI dl) i_isPlanned i_bestDone i_bestCost)), (q 51, .inl (E.2.1 0, 512, .inl a_least)), (q 55, .inl (E.2.1 0, 4, .inl a_sets)), (q 54, .inl (E.2.1 0, 7, .inl a_bestGiven)), (q 53, .inl (E.2.1 0, 7, .inl a_given))] sz) := by
  refine Met.ofW (cc := cX12_give) (maxL := 6) (ret := none) (by decide) rfl ?_
  intro p e s m args below meth c s₁ B hml hv
  obtain ⟨rfl, hsz, hP, hkn, hD0, hst⟩ := hv
  have hx := B.exec
  have hb := B.bytes
  have hr := B.returns
  have hts := atoms_spec (ws := wsX12_give) B.pre
  have hown : s.vm.findClass RX12 = some m.cls := findClass_of_methodNamed B.named
  have hlocks := B.notSynchronized
  subst hsz
  have hD := hD0.self (sz := s.heap.size)
  have hK := hkn.1
  have hAO := hkn.2.2.1
  generalize hAe : va_A [(h0, .inr (12, mG q i_taped i_size i_sort i_what i_at i_end i_worth i_faultKind i_faultPlace i_got i_worked (nI dl) i_isPlanned i_bestDone i_bestCost)), (q 51, .inl (E.2.1 0, 512, .inl a_least)), (q 55, .inl (E.2.1 0, 4, .inl a_sets)), (q 54, .inl (E.2.1 0, 7, .inl a_bestGiven)), (q 53, .inl (E.2.1 0, 7, .inl a_given))] s.heap.size = A at hD hst ⊢
  have hA : ∀ q : Nat, s.heap.size ≤ q → A q := fun q h => by rw [← hAe]; exact Or.inr h
  have hS : va_S A s.heap s.heap [] := va_S.rf
  have hP : va_P E.1 vwCl [(h0, .inr (12, mG q i_taped i_size i_sort i_what i_at i_end i_worth i_faultKind i_faultPlace i_got i_worked (nI dl) i_isPlanned i_bestDone i_bestCost)), (q 51, .inl (E.2.1 0, 512, .inl a_least)), (q 55, .inl (E.2.1 0, 4, .inl a_sets)), (q 54, .inl (E.2.1 0, 7, .inl a_bestGiven)), (q 53, .inl (E.2.1 0, 7, .inl a_given))] s.heap := hP
  have hl := lv_entry ([.ref h0, .int 4]) (n := 6) (Nat.le_of_ble_eq_true rfl)
  rw [lg_entry_eq]
  generalize (lg_sl ([.ref h0, .int 4]) ++ List.replicate (6 - (lg_sl ([.ref h0, .int 4])).length) Slot.unset).toArray = ls at hl ⊢
  have hl : lv_has ls 6 [(0, .ref h0), (1, .int 4)] := hl
  have fl130 := hts (.fieldLink RX12 130 "BoatsHomeModel" "least" "[I") (by first | exact List.mem_of_getElem? (i := 2) rfl | decide +kernel)
  have fl136 := hts (.fieldLink RX12 136 "BoatsHomeModel" "given" "[I") (by first | exact List.mem_of_getElem? (i := 7) rfl | decide +kernel)
  have fl139 := hts (.fieldLink RX12 139 "BoatsHomeModel" "bestGiven" "[I") (by first | exact List.mem_of_getElem? (i := 6) rfl | decide +kernel)
  have fl142 := hts (.fieldLink RX12 142 "BoatsHomeModel" "sets" "[I") (by first | exact List.mem_of_getElem? (i := 3) rfl | decide +kernel)
  have fl289 := hts (.fieldLink RX12 289 "BoatsHomeModel" "deliveries" "I") (by first | exact List.mem_of_getElem? (i := 1) rfl | decide +kernel)
  have fl300 := hts (.fieldLink RX12 300 "BoatsHomeModel" "bestDone" "I") (by first | exact List.mem_of_getElem? (i := 4) rfl | decide +kernel)
  have fl303 := hts (.fieldLink RX12 303 "BoatsHomeModel" "bestCost" "I") (by first | exact List.mem_of_getElem? (i := 5) rfl | decide +kernel)
  have inX12 : ∀ w ∈ u_ws RX12 TX12 59, w ∈ wsX12_give := by first | exact fun w h9 => (List.mem_cons_of_mem _ (List.mem_append_right _ h9)) | decide +kernel
  refine lv_iload_n hx hb dX12_give_0 rfl (lv_at hl 1 rfl) ?_
  refine lv_aload_n hx hb dX12_give_1 rfl (lv_at hl 0 rfl) ?_
  refine va_get (D := E.1) (ci := 12) (v := .int (nI dl)) (C := RX12) (T := TX12) (N := 59) hx hb hts inX12 hown hK hP 0 rfl rfl 41 (by decide) fl289 (fun _ h9 => h9) rfl dX12_give_2 ?_
  refine lv_icmp_ne (tgt := 170) hx hb dX12_give_5 (by decide) (fun c_1 => ?_) (fun c_1 => ?_)
  · have hd2 : 4 + 1 ≤ dl := by
      rcases Nat.lt_or_ge 4 dl with q | q
      · exact q
      · exact absurd (by rw [show dl = 4 by omega]; rfl) c_1
    refine lv_iconst (v := 0) hx hb dX12_give_170 (by decide) ?_
    refine lv_istore_n (lv' := [(2, .int 0), (0, .ref h0), (1, .int 4)]) hx hb dX12_give_171 rfl hl (by decide) rfl (fun ls hl => ?_)
    refine lv_iload_n hx hb dX12_give_172 rfl (lv_at hl 0 rfl) ?_
    refine lv_iconst (v := 4) hx hb dX12_give_173 (by decide) ?_
    refine lv_icmp_ge (tgt := 223) hx hb dX12_give_174 (by decide) (fun c9 => absurd c9 (by decide)) (fun _ => ?_)
    refine lv_aload_n hx hb dX12_give_177 rfl (lv_at hl 1 rfl) ?_
    refine va_get (D := E.1) (ci := 12) (v := .ref (q 53)) (C := RX12) (T := TX12) (N := 59) hx hb hts inX12 hown hK hP 0 rfl rfl 53 (by decide) fl136 (fun _ h9 => h9) rfl dX12_give_178 ?_
    refine lv_iload_n hx hb dX12_give_181 rfl (lv_at hl 2 rfl) ?_
    refine lv_iload_n hx hb dX12_give_182 rfl (lv_at hl 0 rfl) ?_
    refine va_iast hx hb hK hP hD hS 4 0 rfl rfl (show vp_in 4 7 from by unfold vp_in; decide) dX12_give_183 (fun H locs hP hD hS => ?_)
    have hP : va_P E.1 vwCl [(h0, .inr (12, mG q i_taped i_size i_sort i_what i_at i_end i_worth i_faultKind i_faultPlace i_got i_worked (nI dl) i_isPlanned i_bestDone i_bestCost)), (q 51, .inl (E.2.1 0, 512, .inl a_least)), (q 55, .inl (E.2.1 0, 4, .inl a_sets)), (q 54, .inl (E.2.1 0, 7, .inl a_bestGiven)), (q 53, .inl (E.2.1 0, 7, .inl (upd a_given (Int32.toNatClampNeg 4) 0)))] H := hP
    have hD : va_D A [(h0, .inr (12, mG q i_taped i_size i_sort i_what i_at i_end i_worth i_faultKind i_faultPlace i_got i_worked (nI dl) i_isPlanned i_bestDone i_bestCost)), (q 51, .inl (E.2.1 0, 512, .inl a_least)), (q 55, .inl (E.2.1 0, 4, .inl a_sets)), (q 54, .inl (E.2.1 0, 7, .inl a_bestGiven)), (q 53, .inl (E.2.1 0, 7, .inl (upd a_given (Int32.toNatClampNeg 4) 0)))] := hD
    obtain ⟨f_2, ef_2⟩ : ∃ g : Nat → Int32, g = upd a_given (Int32.toNatClampNeg 4) 0 := ⟨_, rfl⟩
    rw [← ef_2] at hP hD
    refine lv_aload_n hx hb dX12_give_184 rfl (lv_at hl 1 rfl) ?_
    refine va_get (D := E.1) (ci := 12) (v := .ref (q 55)) (C := RX12) (T := TX12) (N := 59) hx hb hts inX12 hown hK hP 0 rfl rfl 55 (by decide) fl142 (fun _ h9 => h9) rfl dX12_give_185 ?_
    refine lv_iload_n hx hb dX12_give_188 rfl (lv_at hl 0 rfl) ?_
    refine lv_dup2_11 hx hb dX12_give_189 rfl rfl ?_
    refine va_iald hx hb hK hP 2 0 rfl rfl (show vp_in 0 4 from by unfold vp_in; decide) dX12_give_190 ?_
    refine lv_topi (fun x_3 ex_3 => ?_)
    have hv_4 : inR x_3 0 127 = true := by rw [ex_3]; exact hI_sets _ (vin_cl (show vp_in 0 4 from by unfold vp_in; decide))
    obtain ⟨w_5, hw_6, ew_7⟩ := inR_nI (n := 127) (by decide) hv_4
    subst ew_7
    refine lv_iconst (v := 1) hx hb dX12_give_191 (by decide) ?_
    refine lv_iload_n hx hb dX12_give_192 rfl (lv_at hl 2 rfl) ?_
    refine lv_ishl hx hb dX12_give_193 ?_
    refine lv_topi (fun x_8 ex_8 => ?_)
    obtain rfl : x_8 = 16 := ex_8.trans (by decide +kernel)
    refine lv_ior hx hb dX12_give_194 ?_
    refine lv_topi (fun x_9 ex_9 => ?_)
    refine va_iast hx hb hK hP hD hS 2 0 rfl rfl (show vp_in 0 4 from by unfold vp_in; decide) dX12_give_195 (fun H locs hP hD hS => ?_)
    have hP : va_P E.1 vwCl [(h0, .inr (12, mG q i_taped i_size i_sort i_what i_at i_end i_worth i_faultKind i_faultPlace i_got i_worked (nI dl) i_isPlanned i_bestDone i_bestCost)), (q 51, .inl (E.2.1 0, 512, .inl a_least)), (q 55, .inl (E.2.1 0, 4, .inl (upd a_sets (Int32.toNatClampNeg 0) x_9))), (q 54, .inl (E.2.1 0, 7, .inl a_bestGiven)), (q 53, .inl (E.2.1 0, 7, .inl f_2))] H := hP
    have hD : va_D A [(h0, .inr (12, mG q i_taped i_size i_sort i_what i_at i_end i_worth i_faultKind i_faultPlace i_got i_worked (nI dl) i_isPlanned i_bestDone i_bestCost)), (q 51, .inl (E.2.1 0, 512, .inl a_least)), (q 55, .inl (E.2.1 0, 4, .inl (upd a_sets (Int32.toNatClampNeg 0) x_9))), (q 54, .inl (E.2.1 0, 7, .inl a_bestGiven)), (q 53, .inl (E.2.1 0, 7, .inl f_2))] := hD
    obtain ⟨f_10, ef_10⟩ : ∃ g : Nat → Int32, g = upd a_sets (Int32.toNatClampNeg 0) x_9 := ⟨_, rfl⟩
    rw [← ef_10] at hP hD
    have hI_11 : ∀ k : Nat, k < 4 → inR (f_10 k) 0 127 = true := by rw [ef_10]; exact all_upd (P := fun z => inR z 0 127 = true) hI_sets (by rw [ex_9]; exact or_lt7 _ (by omega) 4 (by decide))
    refine lv_aload_n hx hb dX12_give_196 rfl (lv_at hl 1 rfl) ?_
    refine lv_iload_n hx hb dX12_give_197 rfl (lv_at hl 2 rfl) ?_
    refine lv_iconst (v := 1) hx hb dX12_give_198 (by decide) ?_
    refine lv_iadd hx hb dX12_give_199 ?_
    refine lv_topi (fun x_12 ex_12 => ?_)
    obtain rfl : x_12 = 5 := ex_12.trans (by decide +kernel)
    have hp0 : ∀ i : Nat, i < 4 → f_10 i = put a_sets 0 4 i := put_of (prev := a_sets) (x := x_9) (y := nI w_5) (z := 16) (fun i hi => rfl) (by decide) (ef_10.trans (by rw [show Int32.toNatClampNeg 0 = 0 from by decide])) ex_9 (ex_3.trans (by rw [show Int32.toNatClampNeg 0 = 0 from by decide])) (by decide)
    have hv0 : ∀ k : Nat, k < 4 + 1 → f_2 k = gI (pg gp 4 0 k) := gv_put (cur := a_given) (fun k hk => rfl) hGv (ef_2.trans (by rw [show Int32.toNatClampNeg 4 = 4 from by decide])) (by decide)
    have hPc := hP.sub (ws' := [(h0, .inr (12, mG q i_taped i_size i_sort i_what i_at i_end i_worth i_faultKind i_faultPlace i_got i_worked (nI dl) i_isPlanned i_bestDone i_bestCost)), (q 51, .inl (E.2.1 0, 512, .inl a_least)), (q 55, .inl (E.2.1 0, 4, .inl f_10)), (q 54, .inl (E.2.1 0, 7, .inl a_bestGiven)), (q 53, .inl (E.2.1 0, 7, .inl f_2))]) [0, 1, 2, 3, 4] rfl
    have hDc := hD.sub (ws' := [(h0, .inr (12, mG q i_taped i_size i_sort i_what i_at i_end i_worth i_faultKind i_faultPlace i_got i_worked (nI dl) i_isPlanned i_bestDone i_bestCost)), (q 51, .inl (E.2.1 0, 512, .inl a_least)), (q 55, .inl (E.2.1 0, 4, .inl f_10)), (q 54, .inl (E.2.1 0, 7, .inl a_bestGiven)), (q 53, .inl (E.2.1 0, 7, .inl f_2))]) [0, 1, 2, 3, 4] (by decide) rfl
    have hFc := va_free (wc := [(h0, .inr (12, mG q i_taped i_size i_sort i_what i_at i_end i_worth i_faultKind i_faultPlace i_got i_worked (nI dl) i_isPlanned i_bestDone i_bestCost)), (q 51, .inl (E.2.1 0, 512, .inl a_least)), (q 55, .inl (E.2.1 0, 4, .inl f_10)), (q 54, .inl (E.2.1 0, 7, .inl a_bestGiven)), (q 53, .inl (E.2.1 0, 7, .inl f_2))]) hD hS hA [0, 1, 2, 3, 4] rfl
    refine va_callv (va_runV (As := [.int 5]) (rest := []) ⟨hx, hb, hml, hown, hts⟩ (c_X12_give5 l E h0 q i_taped i_size i_sort i_what i_at i_end i_worth i_faultKind i_faultPlace i_got i_worked i_isPlanned i_bestDone i_bestCost dl FF CC (pg gp 4 0) a_least f_10 a_bestGiven f_2 H.size hdl hd2 (pg_le hp (by decide)) (st_put hSt hp0) hv0 (BG_M (M_0 hd2) hBG) hKm hCb hI_11) (cwV 1 hts gX12_give_X12_give rfl rfl rfl hdV_X12_give ⟨Nat.le_of_ble_eq_true rfl, Nat.le_of_ble_eq_true rfl⟩) ⟨pcW_blind, va_recv hK hPc (ci := 12) (q0 := 0) rfl rfl, (pcW_pre hPc hkn hDc hst hS hFc)⟩ rfl rfl hl.1 rfl (lv_room (Nat.le_of_ble_eq_true rfl)) dX12_give_200 ⟨Nat.le_of_ble_eq_true rfl, Nat.le_of_ble_eq_true rfl⟩) hS (fun q _ h => hFc q h) hFc (fun u t H1 locs ht hvm hw_14 hB hz1 hk1 hS => ?_)
    obtain ⟨u_15, u_16, u_17, u_18, u_19⟩ := u
    obtain ⟨hf_20, hf_21, hf_22, hP1, hD1⟩ := hB
    rw [ht] at hP1
    try dsimp only at hw_14
    obtain ⟨hP, hD⟩ := va_join (wr := []) (w1 := [(h0, .inr (12, mG q i_taped i_size i_sort i_what i_at i_end i_worth i_faultKind i_faultPlace i_got i_worked (nI dl) i_isPlanned u_15 u_16)), (q 51, .inl (E.2.1 0, 512, .inl a_least)), (q 55, .inl (E.2.1 0, 4, .inl u_17)), (q 54, .inl (E.2.1 0, 7, .inl u_18)), (q 53, .inl (E.2.1 0, 7, .inl u_19))]) hP hD [0, 1, 2, 3, 4] [] rfl rfl (by decide) (by decide) hk1 hFc hP1 hD1
    generalize H1 = H at hP hS ⊢
    have hP : va_P E.1 vwCl [(h0, .inr (12, mG q i_taped i_size i_sort i_what i_at i_end i_worth i_faultKind i_faultPlace i_got i_worked (nI dl) i_isPlanned u_15 u_16)), (q 51, .inl (E.2.1 0, 512, .inl a_least)), (q 55, .inl (E.2.1 0, 4, .inl u_17)), (q 54, .inl (E.2.1 0, 7, .inl u_18)), (q 53, .inl (E.2.1 0, 7, .inl u_19))] H := hP
    have hD : va_D A [(h0, .inr (12, mG q i_taped i_size i_sort i_what i_at i_end i_worth i_faultKind i_faultPlace i_got i_worked (nI dl) i_isPlanned u_15 u_16)), (q 51, .inl (E.2.1 0, 512, .inl a_least)), (q 55, .inl (E.2.1 0, 4, .inl u_17)), (q 54, .inl (E.2.1 0, 7, .inl u_18)), (q 53, .inl (E.2.1 0, 7, .inl u_19))] := hD
    refine lv_aload_n hx hb dX12_give_203 rfl (lv_at hl 1 rfl) ?_
    refine va_get (D := E.1) (ci := 12) (v := .ref (q 55)) (C := RX12) (T := TX12) (N := 59) hx hb hts inX12 hown hK hP 0 rfl rfl 55 (by decide) fl142 (fun _ h9 => h9) rfl dX12_give_204 ?_
    refine lv_iload_n hx hb dX12_give_207 rfl (lv_at hl 0 rfl) ?_
    refine lv_dup2_11 hx hb dX12_give_208 rfl rfl ?_
    refine va_iald hx hb hK hP 2 0 rfl rfl (show vp_in 0 4 from by unfold vp_in; decide) dX12_give_209 ?_
    refine lv_topi (fun x_23 ex_23 => ?_)
    have hv_24 : inR x_23 0 127 = true := by rw [ex_23]; exact hf_20 _ (vin_cl (show vp_in 0 4 from by unfold vp_in; decide))
    obtain ⟨w_25, hw_26, ew_27⟩ := inR_nI (n := 127) (by decide) hv_24
    subst ew_27
    refine lv_iconst (v := 1) hx hb dX12_give_210 (by decide) ?_
    refine lv_iload_n hx hb dX12_give_211 rfl (lv_at hl 2 rfl) ?_
    refine lv_ishl hx hb dX12_give_212 ?_
    refine lv_topi (fun x_28 ex_28 => ?_)
    obtain rfl : x_28 = 16 := ex_28.trans (by decide +kernel)
    refine lv_iconst (v := (-1)) hx hb dX12_give_213 (by decide) ?_
    refine lv_ixor hx hb dX12_give_214 ?_
    refine lv_topi (fun x_29 ex_29 => ?_)
    obtain rfl : x_29 = (-17) := ex_29.trans (by decide +kernel)
    refine lv_iand hx hb dX12_give_215 ?_
    refine lv_topi (fun x_30 ex_30 => ?_)
    refine va_iast hx hb hK hP hD hS 2 0 rfl rfl (show vp_in 0 4 from by unfold vp_in; decide) dX12_give_216 (fun H locs hP hD hS => ?_)
    have hP : va_P E.1 vwCl [(h0, .inr (12, mG q i_taped i_size i_sort i_what i_at i_end i_worth i_faultKind i_faultPlace i_got i_worked (nI dl) i_isPlanned u_15 u_16)), (q 51, .inl (E.2.1 0, 512, .inl a_least)), (q 55, .inl (E.2.1 0, 4, .inl (upd u_17 (Int32.toNatClampNeg 0) x_30))), (q 54, .inl (E.2.1 0, 7, .inl u_18)), (q 53, .inl (E.2.1 0, 7, .inl u_19))] H := hP
    have hD : va_D A [(h0, .inr (12, mG q i_taped i_size i_sort i_what i_at i_end i_worth i_faultKind i_faultPlace i_got i_worked (nI dl) i_isPlanned u_15 u_16)), (q 51, .inl (E.2.1 0, 512, .inl a_least)), (q 55, .inl (E.2.1 0, 4, .inl (upd u_17 (Int32.toNatClampNeg 0) x_30))), (q 54, .inl (E.2.1 0, 7, .inl u_18)), (q 53, .inl (E.2.1 0, 7, .inl u_19))] := hD
    obtain ⟨f_31, ef_31⟩ : ∃ g : Nat → Int32, g = upd u_17 (Int32.toNatClampNeg 0) x_30 := ⟨_, rfl⟩
    rw [← ef_31] at hP hD
    have hI_32 : ∀ k : Nat, k < 4 → inR (f_31 k) 0 127 = true := by rw [ef_31]; exact all_upd (P := fun z => inR z 0 127 = true) hf_20 (by rw [ex_30]; exact and_lt7 _ (by omega) 4 (by decide))
    have hb0 : ∀ i : Nat, i < 4 → f_31 i = a_sets i := gback_of (u := u_17) (x := x_30) (y := nI w_25) (z := (-17)) (by decide) (by decide) ⟨gp, hSt⟩ hp0 hf_21 (ef_31.trans (by rw [show Int32.toNatClampNeg 0 = 0 from by decide])) ex_30 (ex_23.trans (by rw [show Int32.toNatClampNeg 0 = 0 from by decide])) (by decide)
    refine lv_iinc (v := 1) (lv' := [(2, .int 1), (0, .ref h0), (1, .int 4)]) hx hb dX12_give_217 hl (k := 0) rfl (by decide) (by decide) rfl (fun ls hl => ?_)
    refine lv_goto (tgt := 172) hx hb dX12_give_220 (by decide) ?_
    refine lv_iload_n hx hb dX12_give_172 rfl (lv_at hl 0 rfl) ?_
    refine lv_iconst (v := 4) hx hb dX12_give_173 (by decide) ?_
    refine lv_icmp_ge (tgt := 223) hx hb dX12_give_174 (by decide) (fun c9 => absurd c9 (by decide)) (fun _ => ?_)
    refine lv_aload_n hx hb dX12_give_177 rfl (lv_at hl 1 rfl) ?_
    refine va_get (D := E.1) (ci := 12) (v := .ref (q 53)) (C := RX12) (T := TX12) (N := 59) hx hb hts inX12 hown hK hP 0 rfl rfl 53 (by decide) fl136 (fun _ h9 => h9) rfl dX12_give_178 ?_
    refine lv_iload_n hx hb dX12_give_181 rfl (lv_at hl 2 rfl) ?_
    refine lv_iload_n hx hb dX12_give_182 rfl (lv_at hl 0 rfl) ?_
    refine va_iast hx hb hK hP hD hS 4 0 rfl rfl (show vp_in 4 7 from by unfold vp_in; decide) dX12_give_183 (fun H locs hP hD hS => ?_)
    have hP : va_P E.1 vwCl [(h0, .inr (12, mG q i_taped i_size i_sort i_what i_at i_end i_worth i_faultKind i_faultPlace i_got i_worked (nI dl) i_isPlanned u_15 u_16)), (q 51, .inl (E.2.1 0, 512, .inl a_least)), (q 55, .inl (E.2.1 0, 4, .inl f_31)), (q 54, .inl (E.2.1 0, 7, .inl u_18)), (q 53, .inl (E.2.1 0, 7, .inl (upd u_19 (Int32.toNatClampNeg 4) 1)))] H := hP
    have hD : va_D A [(h0, .inr (12, mG q i_taped i_size i_sort i_what i_at i_end i_worth i_faultKind i_faultPlace i_got i_worked (nI dl) i_isPlanned u_15 u_16)), (q 51, .inl (E.2.1 0, 512, .inl a_least)), (q 55, .inl (E.2.1 0, 4, .inl f_31)), (q 54, .inl (E.2.1 0, 7, .inl u_18)), (q 53, .inl (E.2.1 0, 7, .inl (upd u_19 (Int32.toNatClampNeg 4) 1)))] := hD
    obtain ⟨f_33, ef_33⟩ : ∃ g : Nat → Int32, g = upd u_19 (Int32.toNatClampNeg 4) 1 := ⟨_, rfl⟩
    rw [← ef_33] at hP hD
    refine lv_aload_n hx hb dX12_give_184 rfl (lv_at hl 1 rfl) ?_
    refine va_get (D := E.1) (ci := 12) (v := .ref (q 55)) (C := RX12) (T := TX12) (N := 59) hx hb hts inX12 hown hK hP 0 rfl rfl 55 (by decide) fl142 (fun _ h9 => h9) rfl dX12_give_185 ?_
    refine lv_iload_n hx hb dX12_give_188 rfl (lv_at hl 0 rfl) ?_
    refine lv_dup2_11 hx hb dX12_give_189 rfl rfl ?_
    refine va_iald hx hb hK hP 2 0 rfl rfl (show vp_in 1 4 from by unfold vp_in; decide) dX12_give_190 ?_
    refine lv_topi (fun x_34 ex_34 => ?_)
    have hv_35 : inR x_34 0 127 = true := by rw [ex_34]; exact hI_32 _ (vin_cl (show vp_in 1 4 from by unfold vp_in; decide))
    obtain ⟨w_36, hw_37, ew_38⟩ := inR_nI (n := 127) (by decide) hv_35
    subst ew_38
    refine lv_iconst (v := 1) hx hb dX12_give_191 (by decide) ?_
    refine lv_iload_n hx hb dX12_give_192 rfl (lv_at hl 2 rfl) ?_
    refine lv_ishl hx hb dX12_give_193 ?_
    refine lv_topi (fun x_39 ex_39 => ?_)
    obtain rfl : x_39 = 16 := ex_39.trans (by decide +kernel)
    refine lv_ior hx hb dX12_give_194 ?_
    refine lv_topi (fun x_40 ex_40 => ?_)
    refine va_iast hx hb hK hP hD hS 2 0 rfl rfl (show vp_in 1 4 from by unfold vp_in; decide) dX12_give_195 (fun H locs hP hD hS => ?_)
    have hP : va_P E.1 vwCl [(h0, .inr (12, mG q i_taped i_size i_sort i_what i_at i_end i_worth i_faultKind i_faultPlace i_got i_worked (nI dl) i_isPlanned u_15 u_16)), (q 51, .inl (E.2.1 0, 512, .inl a_least)), (q 55, .inl (E.2.1 0, 4, .inl (upd f_31 (Int32.toNatClampNeg 1) x_40))), (q 54, .inl (E.2.1 0, 7, .inl u_18)), (q 53, .inl (E.2.1 0, 7, .inl f_33))] H := hP
    have hD : va_D A [(h0, .inr (12, mG q i_taped i_size i_sort i_what i_at i_end i_worth i_faultKind i_faultPlace i_got i_worked (nI dl) i_isPlanned u_15 u_16)), (q 51, .inl (E.2.1 0, 512, .inl a_least)), (q 55, .inl (E.2.1 0, 4, .inl (upd f_31 (Int32.toNatClampNeg 1) x_40))), (q 54, .inl (E.2.1 0, 7, .inl u_18)), (q 53, .inl (E.2.1 0, 7, .inl f_33))] := hD
    obtain ⟨f_41, ef_41⟩ : ∃ g : Nat → Int32, g = upd f_31 (Int32.toNatClampNeg 1) x_40 := ⟨_, rfl⟩
    rw [← ef_41] at hP hD
    have hI_42 : ∀ k : Nat, k < 4 → inR (f_41 k) 0 127 = true := by rw [ef_41]; exact all_upd (P := fun z => inR z 0 127 = true) hI_32 (by rw [ex_40]; exact or_lt7 _ (by omega) 4 (by decide))
    refine lv_aload_n hx hb dX12_give_196 rfl (lv_at hl 1 rfl) ?_
    refine lv_iload_n hx hb dX12_give_197 rfl (lv_at hl 2 rfl) ?_
    refine lv_iconst (v := 1) hx hb dX12_give_198 (by decide) ?_
    refine lv_iadd hx hb dX12_give_199 ?_
    refine lv_topi (fun x_43 ex_43 => ?_)
    obtain rfl : x_43 = 5 := ex_43.trans (by decide +kernel)
    have hp1 : ∀ i : Nat, i < 4 → f_41 i = put a_sets 1 4 i := put_of (prev := f_31) (x := x_40) (y := nI w_36) (z := 16) hb0 (by decide) (ef_41.trans (by rw [show Int32.toNatClampNeg 1 = 1 from by decide])) ex_40 (ex_34.trans (by rw [show Int32.toNatClampNeg 1 = 1 from by decide])) (by decide)
    have hv1 : ∀ k : Nat, k < 4 + 1 → f_33 k = gI (pg gp 4 1 k) := gv_put (cur := u_19) (gv_cur (fun k hk => rfl) (ef_2.trans (by rw [show Int32.toNatClampNeg 4 = 4 from by decide])) hf_22) hGv (ef_33.trans (by rw [show Int32.toNatClampNeg 4 = 4 from by decide])) (by decide)
    have hPc := hP.sub (ws' := [(h0, .inr (12, mG q i_taped i_size i_sort i_what i_at i_end i_worth i_faultKind i_faultPlace i_got i_worked (nI dl) i_isPlanned u_15 u_16)), (q 51, .inl (E.2.1 0, 512, .inl a_least)), (q 55, .inl (E.2.1 0, 4, .inl f_41)), (q 54, .inl (E.2.1 0, 7, .inl u_18)), (q 53, .inl (E.2.1 0, 7, .inl f_33))]) [0, 1, 2, 3, 4] rfl
    have hDc := hD.sub (ws' := [(h0, .inr (12, mG q i_taped i_size i_sort i_what i_at i_end i_worth i_faultKind i_faultPlace i_got i_worked (nI dl) i_isPlanned u_15 u_16)), (q 51, .inl (E.2.1 0, 512, .inl a_least)), (q 55, .inl (E.2.1 0, 4, .inl f_41)), (q 54, .inl (E.2.1 0, 7, .inl u_18)), (q 53, .inl (E.2.1 0, 7, .inl f_33))]) [0, 1, 2, 3, 4] (by decide) rfl
    have hFc := va_free (wc := [(h0, .inr (12, mG q i_taped i_size i_sort i_what i_at i_end i_worth i_faultKind i_faultPlace i_got i_worked (nI dl) i_isPlanned u_15 u_16)), (q 51, .inl (E.2.1 0, 512, .inl a_least)), (q 55, .inl (E.2.1 0, 4, .inl f_41)), (q 54, .inl (E.2.1 0, 7, .inl u_18)), (q 53, .inl (E.2.1 0, 7, .inl f_33))]) hD hS hA [0, 1, 2, 3, 4] rfl
    refine va_callv (va_runV (As := [.int 5]) (rest := []) ⟨hx, hb, hml, hown, hts⟩ (c_X12_give5 l E h0 q i_taped i_size i_sort i_what i_at i_end i_worth i_faultKind i_faultPlace i_got i_worked i_isPlanned u_15 u_16 dl FF CC (pg gp 4 1) a_least f_41 u_18 f_33 H.size hdl hd2 (pg_le hp (by decide)) (st_put hSt hp1) hv1 (BG_M M_s hw_14) hKm hCb hI_42) (cwV 1 hts gX12_give_X12_give rfl rfl rfl hdV_X12_give ⟨Nat.le_of_ble_eq_true rfl, Nat.le_of_ble_eq_true rfl⟩) ⟨pcW_blind, va_recv hK hPc (ci := 12) (q0 := 0) rfl rfl, (pcW_pre hPc hkn hDc hst hS hFc)⟩ rfl rfl hl.1 rfl (lv_room (Nat.le_of_ble_eq_true rfl)) dX12_give_200 ⟨Nat.le_of_ble_eq_true rfl, Nat.le_of_ble_eq_true rfl⟩) hS (fun q _ h => hFc q h) hFc (fun u t H1 locs ht hvm hw_45 hB hz1 hk1 hS => ?_)
    obtain ⟨u_46, u_47, u_48, u_49, u_50⟩ := u
    obtain ⟨hf_51, hf_52, hf_53, hP1, hD1⟩ := hB
    rw [ht] at hP1
    try dsimp only at hw_45
    obtain ⟨hP, hD⟩ := va_join (wr := []) (w1 := [(h0, .inr (12, mG q i_taped i_size i_sort i_what i_at i_end i_worth i_faultKind i_faultPlace i_got i_worked (nI dl) i_isPlanned u_46 u_47)), (q 51, .inl (E.2.1 0, 512, .inl a_least)), (q 55, .inl (E.2.1 0, 4, .inl u_48)), (q 54, .inl (E.2.1 0, 7, .inl u_49)), (q 53, .inl (E.2.1 0, 7, .inl u_50))]) hP hD [0, 1, 2, 3, 4] [] rfl rfl (by decide) (by decide) hk1 hFc hP1 hD1
    generalize H1 = H at hP hS ⊢
    have hP : va_P E.1 vwCl [(h0, .inr (12, mG q i_taped i_size i_sort i_what i_at i_end i_worth i_faultKind i_faultPlace i_got i_worked (nI dl) i_isPlanned u_46 u_47)), (q 51, .inl (E.2.1 0, 512, .inl a_least)), (q 55, .inl (E.2.1 0, 4, .inl u_48)), (q 54, .inl (E.2.1 0, 7, .inl u_49)), (q 53, .inl (E.2.1 0, 7, .inl u_50))] H := hP
    have hD : va_D A [(h0, .inr (12, mG q i_taped i_size i_sort i_what i_at i_end i_worth i_faultKind i_faultPlace i_got i_worked (nI dl) i_isPlanned u_46 u_47)), (q 51, .inl (E.2.1 0, 512, .inl a_least)), (q 55, .inl (E.2.1 0, 4, .inl u_48)), (q 54, .inl (E.2.1 0, 7, .inl u_49)), (q 53, .inl (E.2.1 0, 7, .inl u_50))] := hD
    refine lv_aload_n hx hb dX12_give_203 rfl (lv_at hl 1 rfl) ?_
    refine va_get (D := E.1) (ci := 12) (v := .ref (q 55)) (C := RX12) (T := TX12) (N := 59) hx hb hts inX12 hown hK hP 0 rfl rfl 55 (by decide) fl142 (fun _ h9 => h9) rfl dX12_give_204 ?_
    refine lv_iload_n hx hb dX12_give_207 rfl (lv_at hl 0 rfl) ?_
    refine lv_dup2_11 hx hb dX12_give_208 rfl rfl ?_
    refine va_iald hx hb hK hP 2 0 rfl rfl (show vp_in 1 4 from by unfold vp_in; decide) dX12_give_209 ?_
    refine lv_topi (fun x_54 ex_54 => ?_)
    have hv_55 : inR x_54 0 127 = true := by rw [ex_54]; exact hf_51 _ (vin_cl (show vp_in 1 4 from by unfold vp_in; decide))
    obtain ⟨w_56, hw_57, ew_58⟩ := inR_nI (n := 127) (by decide) hv_55
    subst ew_58
    refine lv_iconst (v := 1) hx hb dX12_give_210 (by decide) ?_
    refine lv_iload_n hx hb dX12_give_211 rfl (lv_at hl 2 rfl) ?_
    refine lv_ishl hx hb dX12_give_212 ?_
    refine lv_topi (fun x_59 ex_59 => ?_)
    obtain rfl : x_59 = 16 := ex_59.trans (by decide +kernel)
    refine lv_iconst (v := (-1)) hx hb dX12_give_213 (by decide) ?_
    refine lv_ixor hx hb dX12_give_214 ?_
    refine lv_topi (fun x_60 ex_60 => ?_)
    obtain rfl : x_60 = (-17) := ex_60.trans (by decide +kernel)
    refine lv_iand hx hb dX12_give_215 ?_
    refine lv_topi (fun x_61 ex_61 => ?_)
    refine va_iast hx hb hK hP hD hS 2 0 rfl rfl (show vp_in 1 4 from by unfold vp_in; decide) dX12_give_216 (fun H locs hP hD hS => ?_)
    have hP : va_P E.1 vwCl [(h0, .inr (12, mG q i_taped i_size i_sort i_what i_at i_end i_worth i_faultKind i_faultPlace i_got i_worked (nI dl) i_isPlanned u_46 u_47)), (q 51, .inl (E.2.1 0, 512, .inl a_least)), (q 55, .inl (E.2.1 0, 4, .inl (upd u_48 (Int32.toNatClampNeg 1) x_61))), (q 54, .inl (E.2.1 0, 7, .inl u_49)), (q 53, .inl (E.2.1 0, 7, .inl u_50))] H := hP
    have hD : va_D A [(h0, .inr (12, mG q i_taped i_size i_sort i_what i_at i_end i_worth i_faultKind i_faultPlace i_got i_worked (nI dl) i_isPlanned u_46 u_47)), (q 51, .inl (E.2.1 0, 512, .inl a_least)), (q 55, .inl (E.2.1 0, 4, .inl (upd u_48 (Int32.toNatClampNeg 1) x_61))), (q 54, .inl (E.2.1 0, 7, .inl u_49)), (q 53, .inl (E.2.1 0, 7, .inl u_50))] := hD
    obtain ⟨f_62, ef_62⟩ : ∃ g : Nat → Int32, g = upd u_48 (Int32.toNatClampNeg 1) x_61 := ⟨_, rfl⟩
    rw [← ef_62] at hP hD
    have hI_63 : ∀ k : Nat, k < 4 → inR (f_62 k) 0 127 = true := by rw [ef_62]; exact all_upd (P := fun z => inR z 0 127 = true) hf_51 (by rw [ex_61]; exact and_lt7 _ (by omega) 4 (by decide))
    have hb1 : ∀ i : Nat, i < 4 → f_62 i = a_sets i := gback_of (u := u_48) (x := x_61) (y := nI w_56) (z := (-17)) (by decide) (by decide) ⟨gp, hSt⟩ hp1 hf_52 (ef_62.trans (by rw [show Int32.toNatClampNeg 1 = 1 from by decide])) ex_61 (ex_54.trans (by rw [show Int32.toNatClampNeg 1 = 1 from by decide])) (by decide)
    refine lv_iinc (v := 2) (lv' := [(2, .int 2), (0, .ref h0), (1, .int 4)]) hx hb dX12_give_217 hl (k := 0) rfl (by decide) (by decide) rfl (fun ls hl => ?_)
    refine lv_goto (tgt := 172) hx hb dX12_give_220 (by decide) ?_
    refine lv_iload_n hx hb dX12_give_172 rfl (lv_at hl 0 rfl) ?_
    refine lv_iconst (v := 4) hx hb dX12_give_173 (by decide) ?_
    refine lv_icmp_ge (tgt := 223) hx hb dX12_give_174 (by decide) (fun c9 => absurd c9 (by decide)) (fun _ => ?_)
    refine lv_aload_n hx hb dX12_give_177 rfl (lv_at hl 1 rfl) ?_
    refine va_get (D := E.1) (ci := 12) (v := .ref (q 53)) (C := RX12) (T := TX12) (N := 59) hx hb hts inX12 hown hK hP 0 rfl rfl 53 (by decide) fl136 (fun _ h9 => h9) rfl dX12_give_178 ?_
    refine lv_iload_n hx hb dX12_give_181 rfl (lv_at hl 2 rfl) ?_
    refine lv_iload_n hx hb dX12_give_182 rfl (lv_at hl 0 rfl) ?_
    refine va_iast hx hb hK hP hD hS 4 0 rfl rfl (show vp_in 4 7 from by unfold vp_in; decide) dX12_give_183 (fun H locs hP hD hS => ?_)
    have hP : va_P E.1 vwCl [(h0, .inr (12, mG q i_taped i_size i_sort i_what i_at i_end i_worth i_faultKind i_faultPlace i_got i_worked (nI dl) i_isPlanned u_46 u_47)), (q 51, .inl (E.2.1 0, 512, .inl a_least)), (q 55, .inl (E.2.1 0, 4, .inl f_62)), (q 54, .inl (E.2.1 0, 7, .inl u_49)), (q 53, .inl (E.2.1 0, 7, .inl (upd u_50 (Int32.toNatClampNeg 4) 2)))] H := hP
    have hD : va_D A [(h0, .inr (12, mG q i_taped i_size i_sort i_what i_at i_end i_worth i_faultKind i_faultPlace i_got i_worked (nI dl) i_isPlanned u_46 u_47)), (q 51, .inl (E.2.1 0, 512, .inl a_least)), (q 55, .inl (E.2.1 0, 4, .inl f_62)), (q 54, .inl (E.2.1 0, 7, .inl u_49)), (q 53, .inl (E.2.1 0, 7, .inl (upd u_50 (Int32.toNatClampNeg 4) 2)))] := hD
    obtain ⟨f_64, ef_64⟩ : ∃ g : Nat → Int32, g = upd u_50 (Int32.toNatClampNeg 4) 2 := ⟨_, rfl⟩
    rw [← ef_64] at hP hD
    refine lv_aload_n hx hb dX12_give_184 rfl (lv_at hl 1 rfl) ?_
    refine va_get (D := E.1) (ci := 12) (v := .ref (q 55)) (C := RX12) (T := TX12) (N := 59) hx hb hts inX12 hown hK hP 0 rfl rfl 55 (by decide) fl142 (fun _ h9 => h9) rfl dX12_give_185 ?_
    refine lv_iload_n hx hb dX12_give_188 rfl (lv_at hl 0 rfl) ?_
    refine lv_dup2_11 hx hb dX12_give_189 rfl rfl ?_
    refine va_iald hx hb hK hP 2 0 rfl rfl (show vp_in 2 4 from by unfold vp_in; decide) dX12_give_190 ?_
    refine lv_topi (fun x_65 ex_65 => ?_)
    have hv_66 : inR x_65 0 127 = true := by rw [ex_65]; exact hI_63 _ (vin_cl (show vp_in 2 4 from by unfold vp_in; decide))
    obtain ⟨w_67, hw_68, ew_69⟩ := inR_nI (n := 127) (by decide) hv_66
    subst ew_69
    refine lv_iconst (v := 1) hx hb dX12_give_191 (by decide) ?_
    refine lv_iload_n hx hb dX12_give_192 rfl (lv_at hl 2 rfl) ?_
    refine lv_ishl hx hb dX12_give_193 ?_
    refine lv_topi (fun x_70 ex_70 => ?_)
    obtain rfl : x_70 = 16 := ex_70.trans (by decide +kernel)
    refine lv_ior hx hb dX12_give_194 ?_
    refine lv_topi (fun x_71 ex_71 => ?_)
    refine va_iast hx hb hK hP hD hS 2 0 rfl rfl (show vp_in 2 4 from by unfold vp_in; decide) dX12_give_195 (fun H locs hP hD hS => ?_)
    have hP : va_P E.1 vwCl [(h0, .inr (12, mG q i_taped i_size i_sort i_what i_at i_end i_worth i_faultKind i_faultPlace i_got i_worked (nI dl) i_isPlanned u_46 u_47)), (q 51, .inl (E.2.1 0, 512, .inl a_least)), (q 55, .inl (E.2.1 0, 4, .inl (upd f_62 (Int32.toNatClampNeg 2) x_71))), (q 54, .inl (E.2.1 0, 7, .inl u_49)), (q 53, .inl (E.2.1 0, 7, .inl f_64))] H := hP
    have hD : va_D A [(h0, .inr (12, mG q i_taped i_size i_sort i_what i_at i_end i_worth i_faultKind i_faultPlace i_got i_worked (nI dl) i_isPlanned u_46 u_47)), (q 51, .inl (E.2.1 0, 512, .inl a_least)), (q 55, .inl (E.2.1 0, 4, .inl (upd f_62 (Int32.toNatClampNeg 2) x_71))), (q 54, .inl (E.2.1 0, 7, .inl u_49)), (q 53, .inl (E.2.1 0, 7, .inl f_64))] := hD
    obtain ⟨f_72, ef_72⟩ : ∃ g : Nat → Int32, g = upd f_62 (Int32.toNatClampNeg 2) x_71 := ⟨_, rfl⟩
    rw [← ef_72] at hP hD
    have hI_73 : ∀ k : Nat, k < 4 → inR (f_72 k) 0 127 = true := by rw [ef_72]; exact all_upd (P := fun z => inR z 0 127 = true) hI_63 (by rw [ex_71]; exact or_lt7 _ (by omega) 4 (by decide))
    refine lv_aload_n hx hb dX12_give_196 rfl (lv_at hl 1 rfl) ?_
    refine lv_iload_n hx hb dX12_give_197 rfl (lv_at hl 2 rfl) ?_
    refine lv_iconst (v := 1) hx hb dX12_give_198 (by decide) ?_
    refine lv_iadd hx hb dX12_give_199 ?_
    refine lv_topi (fun x_74 ex_74 => ?_)
    obtain rfl : x_74 = 5 := ex_74.trans (by decide +kernel)
    have hp2 : ∀ i : Nat, i < 4 → f_72 i = put a_sets 2 4 i := put_of (prev := f_62) (x := x_71) (y := nI w_67) (z := 16) hb1 (by decide) (ef_72.trans (by rw [show Int32.toNatClampNeg 2 = 2 from by decide])) ex_71 (ex_65.trans (by rw [show Int32.toNatClampNeg 2 = 2 from by decide])) (by decide)
    have hv2 : ∀ k : Nat, k < 4 + 1 → f_64 k = gI (pg gp 4 2 k) := gv_put (cur := u_50) (gv_cur (gv_cur (fun k hk => rfl) (ef_2.trans (by rw [show Int32.toNatClampNeg 4 = 4 from by decide])) hf_22) (ef_33.trans (by rw [show Int32.toNatClampNeg 4 = 4 from by decide])) hf_53) hGv (ef_64.trans (by rw [show Int32.toNatClampNeg 4 = 4 from by decide])) (by decide)
    have hPc := hP.sub (ws' := [(h0, .inr (12, mG q i_taped i_size i_sort i_what i_at i_end i_worth i_faultKind i_faultPlace i_got i_worked (nI dl) i_isPlanned u_46 u_47)), (q 51, .inl (E.2.1 0, 512, .inl a_least)), (q 55, .inl (E.2.1 0, 4, .inl f_72)), (q 54, .inl (E.2.1 0, 7, .inl u_49)), (q 53, .inl (E.2.1 0, 7, .inl f_64))]) [0, 1, 2, 3, 4] rfl
    have hDc := hD.sub (ws' := [(h0, .inr (12, mG q i_taped i_size i_sort i_what i_at i_end i_worth i_faultKind i_faultPlace i_got i_worked (nI dl) i_isPlanned u_46 u_47)), (q 51, .inl (E.2.1 0, 512, .inl a_least)), (q 55, .inl (E.2.1 0, 4, .inl f_72)), (q 54, .inl (E.2.1 0, 7, .inl u_49)), (q 53, .inl (E.2.1 0, 7, .inl f_64))]) [0, 1, 2, 3, 4] (by decide) rfl
    have hFc := va_free (wc := [(h0, .inr (12, mG q i_taped i_size i_sort i_what i_at i_end i_worth i_faultKind i_faultPlace i_got i_worked (nI dl) i_isPlanned u_46 u_47)), (q 51, .inl (E.2.1 0, 512, .inl a_least)), (q 55, .inl (E.2.1 0, 4, .inl f_72)), (q 54, .inl (E.2.1 0, 7, .inl u_49)), (q 53, .inl (E.2.1 0, 7, .inl f_64))]) hD hS hA [0, 1, 2, 3, 4] rfl
    refine va_callv (va_runV (As := [.int 5]) (rest := []) ⟨hx, hb, hml, hown, hts⟩ (c_X12_give5 l E h0 q i_taped i_size i_sort i_what i_at i_end i_worth i_faultKind i_faultPlace i_got i_worked i_isPlanned u_46 u_47 dl FF CC (pg gp 4 2) a_least f_72 u_49 f_64 H.size hdl hd2 (pg_le hp (by decide)) (st_put hSt hp2) hv2 (BG_M M_s hw_45) hKm hCb hI_73) (cwV 1 hts gX12_give_X12_give rfl rfl rfl hdV_X12_give ⟨Nat.le_of_ble_eq_true rfl, Nat.le_of_ble_eq_true rfl⟩) ⟨pcW_blind, va_recv hK hPc (ci := 12) (q0 := 0) rfl rfl, (pcW_pre hPc hkn hDc hst hS hFc)⟩ rfl rfl hl.1 rfl (lv_room (Nat.le_of_ble_eq_true rfl)) dX12_give_200 ⟨Nat.le_of_ble_eq_true rfl, Nat.le_of_ble_eq_true rfl⟩) hS (fun q _ h => hFc q h) hFc (fun u t H1 locs ht hvm hw_76 hB hz1 hk1 hS => ?_)
    obtain ⟨u_77, u_78, u_79, u_80, u_81⟩ := u
    obtain ⟨hf_82, hf_83, hf_84, hP1, hD1⟩ := hB
    rw [ht] at hP1
    try dsimp only at hw_76
    obtain ⟨hP, hD⟩ := va_join (wr := []) (w1 := [(h0, .inr (12, mG q i_taped i_size i_sort i_what i_at i_end i_worth i_faultKind i_faultPlace i_got i_worked (nI dl) i_isPlanned u_77 u_78)), (q 51, .inl (E.2.1 0, 512, .inl a_least)), (q 55, .inl (E.2.1 0, 4, .inl u_79)), (q 54, .inl (E.2.1 0, 7, .inl u_80)), (q 53, .inl (E.2.1 0, 7, .inl u_81))]) hP hD [0, 1, 2, 3, 4] [] rfl rfl (by decide) (by decide) hk1 hFc hP1 hD1
    generalize H1 = H at hP hS ⊢
    have hP : va_P E.1 vwCl [(h0, .inr (12, mG q i_taped i_size i_sort i_what i_at i_end i_worth i_faultKind i_faultPlace i_got i_worked (nI dl) i_isPlanned u_77 u_78)), (q 51, .inl (E.2.1 0, 512, .inl a_least)), (q 55, .inl (E.2.1 0, 4, .inl u_79)), (q 54, .inl (E.2.1 0, 7, .inl u_80)), (q 53, .inl (E.2.1 0, 7, .inl u_81))] H := hP
    have hD : va_D A [(h0, .inr (12, mG q i_taped i_size i_sort i_what i_at i_end i_worth i_faultKind i_faultPlace i_got i_worked (nI dl) i_isPlanned u_77 u_78)), (q 51, .inl (E.2.1 0, 512, .inl a_least)), (q 55, .inl (E.2.1 0, 4, .inl u_79)), (q 54, .inl (E.2.1 0, 7, .inl u_80)), (q 53, .inl (E.2.1 0, 7, .inl u_81))] := hD
    refine lv_aload_n hx hb dX12_give_203 rfl (lv_at hl 1 rfl) ?_
    refine va_get (D := E.1) (ci := 12) (v := .ref (q 55)) (C := RX12) (T := TX12) (N := 59) hx hb hts inX12 hown hK hP 0 rfl rfl 55 (by decide) fl142 (fun _ h9 => h9) rfl dX12_give_204 ?_
    refine lv_iload_n hx hb dX12_give_207 rfl (lv_at hl 0 rfl) ?_
    refine lv_dup2_11 hx hb dX12_give_208 rfl rfl ?_
    refine va_iald hx hb hK hP 2 0 rfl rfl (show vp_in 2 4 from by unfold vp_in; decide) dX12_give_209 ?_
    refine lv_topi (fun x_85 ex_85 => ?_)
    have hv_86 : inR x_85 0 127 = true := by rw [ex_85]; exact hf_82 _ (vin_cl (show vp_in 2 4 from by unfold vp_in; decide))
    obtain ⟨w_87, hw_88, ew_89⟩ := inR_nI (n := 127) (by decide) hv_86
    subst ew_89
    refine lv_iconst (v := 1) hx hb dX12_give_210 (by decide) ?_
    refine lv_iload_n hx hb dX12_give_211 rfl (lv_at hl 2 rfl) ?_
    refine lv_ishl hx hb dX12_give_212 ?_
    refine lv_topi (fun x_90 ex_90 => ?_)
    obtain rfl : x_90 = 16 := ex_90.trans (by decide +kernel)
    refine lv_iconst (v := (-1)) hx hb dX12_give_213 (by decide) ?_
    refine lv_ixor hx hb dX12_give_214 ?_
    refine lv_topi (fun x_91 ex_91 => ?_)
    obtain rfl : x_91 = (-17) := ex_91.trans (by decide +kernel)
    refine lv_iand hx hb dX12_give_215 ?_
    refine lv_topi (fun x_92 ex_92 => ?_)
    refine va_iast hx hb hK hP hD hS 2 0 rfl rfl (show vp_in 2 4 from by unfold vp_in; decide) dX12_give_216 (fun H locs hP hD hS => ?_)
    have hP : va_P E.1 vwCl [(h0, .inr (12, mG q i_taped i_size i_sort i_what i_at i_end i_worth i_faultKind i_faultPlace i_got i_worked (nI dl) i_isPlanned u_77 u_78)), (q 51, .inl (E.2.1 0, 512, .inl a_least)), (q 55, .inl (E.2.1 0, 4, .inl (upd u_79 (Int32.toNatClampNeg 2) x_92))), (q 54, .inl (E.2.1 0, 7, .inl u_80)), (q 53, .inl (E.2.1 0, 7, .inl u_81))] H := hP
    have hD : va_D A [(h0, .inr (12, mG q i_taped i_size i_sort i_what i_at i_end i_worth i_faultKind i_faultPlace i_got i_worked (nI dl) i_isPlanned u_77 u_78)), (q 51, .inl (E.2.1 0, 512, .inl a_least)), (q 55, .inl (E.2.1 0, 4, .inl (upd u_79 (Int32.toNatClampNeg 2) x_92))), (q 54, .inl (E.2.1 0, 7, .inl u_80)), (q 53, .inl (E.2.1 0, 7, .inl u_81))] := hD
    obtain ⟨f_93, ef_93⟩ : ∃ g : Nat → Int32, g = upd u_79 (Int32.toNatClampNeg 2) x_92 := ⟨_, rfl⟩
    rw [← ef_93] at hP hD
    have hI_94 : ∀ k : Nat, k < 4 → inR (f_93 k) 0 127 = true := by rw [ef_93]; exact all_upd (P := fun z => inR z 0 127 = true) hf_82 (by rw [ex_92]; exact and_lt7 _ (by omega) 4 (by decide))
    have hb2 : ∀ i : Nat, i < 4 → f_93 i = a_sets i := gback_of (u := u_79) (x := x_92) (y := nI w_87) (z := (-17)) (by decide) (by decide) ⟨gp, hSt⟩ hp2 hf_83 (ef_93.trans (by rw [show Int32.toNatClampNeg 2 = 2 from by decide])) ex_92 (ex_85.trans (by rw [show Int32.toNatClampNeg 2 = 2 from by decide])) (by decide)
    refine lv_iinc (v := 3) (lv' := [(2, .int 3), (0, .ref h0), (1, .int 4)]) hx hb dX12_give_217 hl (k := 0) rfl (by decide) (by decide) rfl (fun ls hl => ?_)
    refine lv_goto (tgt := 172) hx hb dX12_give_220 (by decide) ?_
    refine lv_iload_n hx hb dX12_give_172 rfl (lv_at hl 0 rfl) ?_
    refine lv_iconst (v := 4) hx hb dX12_give_173 (by decide) ?_
    refine lv_icmp_ge (tgt := 223) hx hb dX12_give_174 (by decide) (fun c9 => absurd c9 (by decide)) (fun _ => ?_)
    refine lv_aload_n hx hb dX12_give_177 rfl (lv_at hl 1 rfl) ?_
    refine va_get (D := E.1) (ci := 12) (v := .ref (q 53)) (C := RX12) (T := TX12) (N := 59) hx hb hts inX12 hown hK hP 0 rfl rfl 53 (by decide) fl136 (fun _ h9 => h9) rfl dX12_give_178 ?_
    refine lv_iload_n hx hb dX12_give_181 rfl (lv_at hl 2 rfl) ?_
    refine lv_iload_n hx hb dX12_give_182 rfl (lv_at hl 0 rfl) ?_
    refine va_iast hx hb hK hP hD hS 4 0 rfl rfl (show vp_in 4 7 from by unfold vp_in; decide) dX12_give_183 (fun H locs hP hD hS => ?_)
    have hP : va_P E.1 vwCl [(h0, .inr (12, mG q i_taped i_size i_sort i_what i_at i_end i_worth i_faultKind i_faultPlace i_got i_worked (nI dl) i_isPlanned u_77 u_78)), (q 51, .inl (E.2.1 0, 512, .inl a_least)), (q 55, .inl (E.2.1 0, 4, .inl f_93)), (q 54, .inl (E.2.1 0, 7, .inl u_80)), (q 53, .inl (E.2.1 0, 7, .inl (upd u_81 (Int32.toNatClampNeg 4) 3)))] H := hP
    have hD : va_D A [(h0, .inr (12, mG q i_taped i_size i_sort i_what i_at i_end i_worth i_faultKind i_faultPlace i_got i_worked (nI dl) i_isPlanned u_77 u_78)), (q 51, .inl (E.2.1 0, 512, .inl a_least)), (q 55, .inl (E.2.1 0, 4, .inl f_93)), (q 54, .inl (E.2.1 0, 7, .inl u_80)), (q 53, .inl (E.2.1 0, 7, .inl (upd u_81 (Int32.toNatClampNeg 4) 3)))] := hD
    obtain ⟨f_95, ef_95⟩ : ∃ g : Nat → Int32, g = upd u_81 (Int32.toNatClampNeg 4) 3 := ⟨_, rfl⟩
    rw [← ef_95] at hP hD
    refine lv_aload_n hx hb dX12_give_184 rfl (lv_at hl 1 rfl) ?_
    refine va_get (D := E.1) (ci := 12) (v := .ref (q 55)) (C := RX12) (T := TX12) (N := 59) hx hb hts inX12 hown hK hP 0 rfl rfl 55 (by decide) fl142 (fun _ h9 => h9) rfl dX12_give_185 ?_
    refine lv_iload_n hx hb dX12_give_188 rfl (lv_at hl 0 rfl) ?_
    refine lv_dup2_11 hx hb dX12_give_189 rfl rfl ?_
    refine va_iald hx hb hK hP 2 0 rfl rfl (show vp_in 3 4 from by unfold vp_in; decide) dX12_give_190 ?_
    refine lv_topi (fun x_96 ex_96 => ?_)
    have hv_97 : inR x_96 0 127 = true := by rw [ex_96]; exact hI_94 _ (vin_cl (show vp_in 3 4 from by unfold vp_in; decide))
    obtain ⟨w_98, hw_99, ew_100⟩ := inR_nI (n := 127) (by decide) hv_97
    subst ew_100
    refine lv_iconst (v := 1) hx hb dX12_give_191 (by decide) ?_
    refine lv_iload_n hx hb dX12_give_192 rfl (lv_at hl 2 rfl) ?_
    refine lv_ishl hx hb dX12_give_193 ?_
    refine lv_topi (fun x_101 ex_101 => ?_)
    obtain rfl : x_101 = 16 := ex_101.trans (by decide +kernel)
    refine lv_ior hx hb dX12_give_194 ?_
    refine lv_topi (fun x_102 ex_102 => ?_)
    refine va_iast hx hb hK hP hD hS 2 0 rfl rfl (show vp_in 3 4 from by unfold vp_in; decide) dX12_give_195 (fun H locs hP hD hS => ?_)
    have hP : va_P E.1 vwCl [(h0, .inr (12, mG q i_taped i_size i_sort i_what i_at i_end i_worth i_faultKind i_faultPlace i_got i_worked (nI dl) i_isPlanned u_77 u_78)), (q 51, .inl (E.2.1 0, 512, .inl a_least)), (q 55, .inl (E.2.1 0, 4, .inl (upd f_93 (Int32.toNatClampNeg 3) x_102))), (q 54, .inl (E.2.1 0, 7, .inl u_80)), (q 53, .inl (E.2.1 0, 7, .inl f_95))] H := hP
    have hD : va_D A [(h0, .inr (12, mG q i_taped i_size i_sort i_what i_at i_end i_worth i_faultKind i_faultPlace i_got i_worked (nI dl) i_isPlanned u_77 u_78)), (q 51, .inl (E.2.1 0, 512, .inl a_least)), (q 55, .inl (E.2.1 0, 4, .inl (upd f_93 (Int32.toNatClampNeg 3) x_102))), (q 54, .inl (E.2.1 0, 7, .inl u_80)), (q 53, .inl (E.2.1 0, 7, .inl f_95))] := hD
    obtain ⟨f_103, ef_103⟩ : ∃ g : Nat → Int32, g = upd f_93 (Int32.toNatClampNeg 3) x_102 := ⟨_, rfl⟩
    rw [← ef_103] at hP hD
    have hI_104 : ∀ k : Nat, k < 4 → inR (f_103 k) 0 127 = true := by rw [ef_103]; exact all_upd (P := fun z => inR z 0 127 = true) hI_94 (by rw [ex_102]; exact or_lt7 _ (by omega) 4 (by decide))
    refine lv_aload_n hx hb dX12_give_196 rfl (lv_at hl 1 rfl) ?_
    refine lv_iload_n hx hb dX12_give_197 rfl (lv_at hl 2 rfl) ?_
    refine lv_iconst (v := 1) hx hb dX12_give_198 (by decide) ?_
    refine lv_iadd hx hb dX12_give_199 ?_
    refine lv_topi (fun x_105 ex_105 => ?_)
    obtain rfl : x_105 = 5 := ex_105.trans (by decide +kernel)
    have hp3 : ∀ i : Nat, i < 4 → f_103 i = put a_sets 3 4 i := put_of (prev := f_93) (x := x_102) (y := nI w_98) (z := 16) hb2 (by decide) (ef_103.trans (by rw [show Int32.toNatClampNeg 3 = 3 from by decide])) ex_102 (ex_96.trans (by rw [show Int32.toNatClampNeg 3 = 3 from by decide])) (by decide)
    have hv3 : ∀ k : Nat, k < 4 + 1 → f_95 k = gI (pg gp 4 3 k) := gv_put (cur := u_81) (gv_cur (gv_cur (gv_cur (fun k hk => rfl) (ef_2.trans (by rw [show Int32.toNatClampNeg 4 = 4 from by decide])) hf_22) (ef_33.trans (by rw [show Int32.toNatClampNeg 4 = 4 from by decide])) hf_53) (ef_64.trans (by rw [show Int32.toNatClampNeg 4 = 4 from by decide])) hf_84) hGv (ef_95.trans (by rw [show Int32.toNatClampNeg 4 = 4 from by decide])) (by decide)
    have hPc := hP.sub (ws' := [(h0, .inr (12, mG q i_taped i_size i_sort i_what i_at i_end i_worth i_faultKind i_faultPlace i_got i_worked (nI dl) i_isPlanned u_77 u_78)), (q 51, .inl (E.2.1 0, 512, .inl a_least)), (q 55, .inl (E.2.1 0, 4, .inl f_103)), (q 54, .inl (E.2.1 0, 7, .inl u_80)), (q 53, .inl (E.2.1 0, 7, .inl f_95))]) [0, 1, 2, 3, 4] rfl
    have hDc := hD.sub (ws' := [(h0, .inr (12, mG q i_taped i_size i_sort i_what i_at i_end i_worth i_faultKind i_faultPlace i_got i_worked (nI dl) i_isPlanned u_77 u_78)), (q 51, .inl (E.2.1 0, 512, .inl a_least)), (q 55, .inl (E.2.1 0, 4, .inl f_103)), (q 54, .inl (E.2.1 0, 7, .inl u_80)), (q 53, .inl (E.2.1 0, 7, .inl f_95))]) [0, 1, 2, 3, 4] (by decide) rfl
    have hFc := va_free (wc := [(h0, .inr (12, mG q i_taped i_size i_sort i_what i_at i_end i_worth i_faultKind i_faultPlace i_got i_worked (nI dl) i_isPlanned u_77 u_78)), (q 51, .inl (E.2.1 0, 512, .inl a_least)), (q 55, .inl (E.2.1 0, 4, .inl f_103)), (q 54, .inl (E.2.1 0, 7, .inl u_80)), (q 53, .inl (E.2.1 0, 7, .inl f_95))]) hD hS hA [0, 1, 2, 3, 4] rfl
    refine va_callv (va_runV (As := [.int 5]) (rest := []) ⟨hx, hb, hml, hown, hts⟩ (c_X12_give5 l E h0 q i_taped i_size i_sort i_what i_at i_end i_worth i_faultKind i_faultPlace i_got i_worked i_isPlanned u_77 u_78 dl FF CC (pg gp 4 3) a_least f_103 u_80 f_95 H.size hdl hd2 (pg_le hp (by decide)) (st_put hSt hp3) hv3 (BG_M M_s hw_76) hKm hCb hI_104) (cwV 1 hts gX12_give_X12_give rfl rfl rfl hdV_X12_give ⟨Nat.le_of_ble_eq_true rfl, Nat.le_of_ble_eq_true rfl⟩) ⟨pcW_blind, va_recv hK hPc (ci := 12) (q0 := 0) rfl rfl, (pcW_pre hPc hkn hDc hst hS hFc)⟩ rfl rfl hl.1 rfl (lv_room (Nat.le_of_ble_eq_true rfl)) dX12_give_200 ⟨Nat.le_of_ble_eq_true rfl, Nat.le_of_ble_eq_true rfl⟩) hS (fun q _ h => hFc q h) hFc (fun u t H1 locs ht hvm hw_107 hB hz1 hk1 hS => ?_)
    obtain ⟨u_108, u_109, u_110, u_111, u_112⟩ := u
    obtain ⟨hf_113, hf_114, hf_115, hP1, hD1⟩ := hB
    rw [ht] at hP1
    try dsimp only at hw_107
    obtain ⟨hP, hD⟩ := va_join (wr := []) (w1 := [(h0, .inr (12, mG q i_taped i_size i_sort i_what i_at i_end i_worth i_faultKind i_faultPlace i_got i_worked (nI dl) i_isPlanned u_108 u_109)), (q 51, .inl (E.2.1 0, 512, .inl a_least)), (q 55, .inl (E.2.1 0, 4, .inl u_110)), (q 54, .inl (E.2.1 0, 7, .inl u_111)), (q 53, .inl (E.2.1 0, 7, .inl u_112))]) hP hD [0, 1, 2, 3, 4] [] rfl rfl (by decide) (by decide) hk1 hFc hP1 hD1
    generalize H1 = H at hP hS ⊢
    have hP : va_P E.1 vwCl [(h0, .inr (12, mG q i_taped i_size i_sort i_what i_at i_end i_worth i_faultKind i_faultPlace i_got i_worked (nI dl) i_isPlanned u_108 u_109)), (q 51, .inl (E.2.1 0, 512, .inl a_least)), (q 55, .inl (E.2.1 0, 4, .inl u_110)), (q 54, .inl (E.2.1 0, 7, .inl u_111)), (q 53, .inl (E.2.1 0, 7, .inl u_112))] H := hP
    have hD : va_D A [(h0, .inr (12, mG q i_taped i_size i_sort i_what i_at i_end i_worth i_faultKind i_faultPlace i_got i_worked (nI dl) i_isPlanned u_108 u_109)), (q 51, .inl (E.2.1 0, 512, .inl a_least)), (q 55, .inl (E.2.1 0, 4, .inl u_110)), (q 54, .inl (E.2.1 0, 7, .inl u_111)), (q 53, .inl (E.2.1 0, 7, .inl u_112))] := hD
    refine lv_aload_n hx hb dX12_give_203 rfl (lv_at hl 1 rfl) ?_
    refine va_get (D := E.1) (ci := 12) (v := .ref (q 55)) (C := RX12) (T := TX12) (N := 59) hx hb hts inX12 hown hK hP 0 rfl rfl 55 (by decide) fl142 (fun _ h9 => h9) rfl dX12_give_204 ?_
    refine lv_iload_n hx hb dX12_give_207 rfl (lv_at hl 0 rfl) ?_
    refine lv_dup2_11 hx hb dX12_give_208 rfl rfl ?_
    refine va_iald hx hb hK hP 2 0 rfl rfl (show vp_in 3 4 from by unfold vp_in; decide) dX12_give_209 ?_
    refine lv_topi (fun x_116 ex_116 => ?_)
    have hv_117 : inR x_116 0 127 = true := by rw [ex_116]; exact hf_113 _ (vin_cl (show vp_in 3 4 from by unfold vp_in; decide))
    obtain ⟨w_118, hw_119, ew_120⟩ := inR_nI (n := 127) (by decide) hv_117
    subst ew_120
    refine lv_iconst (v := 1) hx hb dX12_give_210 (by decide) ?_
    refine lv_iload_n hx hb dX12_give_211 rfl (lv_at hl 2 rfl) ?_
    refine lv_ishl hx hb dX12_give_212 ?_
    refine lv_topi (fun x_121 ex_121 => ?_)
    obtain rfl : x_121 = 16 := ex_121.trans (by decide +kernel)
    refine lv_iconst (v := (-1)) hx hb dX12_give_213 (by decide) ?_
    refine lv_ixor hx hb dX12_give_214 ?_
    refine lv_topi (fun x_122 ex_122 => ?_)
    obtain rfl : x_122 = (-17) := ex_122.trans (by decide +kernel)
    refine lv_iand hx hb dX12_give_215 ?_
    refine lv_topi (fun x_123 ex_123 => ?_)
    refine va_iast hx hb hK hP hD hS 2 0 rfl rfl (show vp_in 3 4 from by unfold vp_in; decide) dX12_give_216 (fun H locs hP hD hS => ?_)
    have hP : va_P E.1 vwCl [(h0, .inr (12, mG q i_taped i_size i_sort i_what i_at i_end i_worth i_faultKind i_faultPlace i_got i_worked (nI dl) i_isPlanned u_108 u_109)), (q 51, .inl (E.2.1 0, 512, .inl a_least)), (q 55, .inl (E.2.1 0, 4, .inl (upd u_110 (Int32.toNatClampNeg 3) x_123))), (q 54, .inl (E.2.1 0, 7, .inl u_111)), (q 53, .inl (E.2.1 0, 7, .inl u_112))] H := hP
    have hD : va_D A [(h0, .inr (12, mG q i_taped i_size i_sort i_what i_at i_end i_worth i_faultKind i_faultPlace i_got i_worked (nI dl) i_isPlanned u_108 u_109)), (q 51, .inl (E.2.1 0, 512, .inl a_least)), (q 55, .inl (E.2.1 0, 4, .inl (upd u_110 (Int32.toNatClampNeg 3) x_123))), (q 54, .inl (E.2.1 0, 7, .inl u_111)), (q 53, .inl (E.2.1 0, 7, .inl u_112))] := hD
    obtain ⟨f_124, ef_124⟩ : ∃ g : Nat → Int32, g = upd u_110 (Int32.toNatClampNeg 3) x_123 := ⟨_, rfl⟩
    rw [← ef_124] at hP hD
    have hI_125 : ∀ k : Nat, k < 4 → inR (f_124 k) 0 127 = true := by rw [ef_124]; exact all_upd (P := fun z => inR z 0 127 = true) hf_113 (by rw [ex_123]; exact and_lt7 _ (by omega) 4 (by decide))
    have hb3 : ∀ i : Nat, i < 4 → f_124 i = a_sets i := gback_of (u := u_110) (x := x_123) (y := nI w_118) (z := (-17)) (by decide) (by decide) ⟨gp, hSt⟩ hp3 hf_114 (ef_124.trans (by rw [show Int32.toNatClampNeg 3 = 3 from by decide])) ex_123 (ex_116.trans (by rw [show Int32.toNatClampNeg 3 = 3 from by decide])) (by decide)
    refine lv_iinc (v := 4) (lv' := [(2, .int 4), (0, .ref h0), (1, .int 4)]) hx hb dX12_give_217 hl (k := 0) rfl (by decide) (by decide) rfl (fun ls hl => ?_)
    refine lv_goto (tgt := 172) hx hb dX12_give_220 (by decide) ?_
    refine lv_iload_n hx hb dX12_give_172 rfl (lv_at hl 0 rfl) ?_
    refine lv_iconst (v := 4) hx hb dX12_give_173 (by decide) ?_
    refine lv_icmp_ge (tgt := 223) hx hb dX12_give_174 (by decide) (fun _ => ?_) (fun c9 => absurd c9 (by decide))
    refine lv_aload_n hx hb dX12_give_223 rfl (lv_at hl 1 rfl) ?_
    refine va_get (D := E.1) (ci := 12) (v := .ref (q 53)) (C := RX12) (T := TX12) (N := 59) hx hb hts inX12 hown hK hP 0 rfl rfl 53 (by decide) fl136 (fun _ h9 => h9) rfl dX12_give_224 ?_
    refine lv_iload_n hx hb dX12_give_227 rfl (lv_at hl 2 rfl) ?_
    refine lv_iconst (v := (-1)) hx hb dX12_give_228 (by decide) ?_
    refine va_iast hx hb hK hP hD hS 4 0 rfl rfl (show vp_in 4 7 from by unfold vp_in; decide) dX12_give_229 (fun H locs hP hD hS => ?_)
    have hP : va_P E.1 vwCl [(h0, .inr (12, mG q i_taped i_size i_sort i_what i_at i_end i_worth i_faultKind i_faultPlace i_got i_worked (nI dl) i_isPlanned u_108 u_109)), (q 51, .inl (E.2.1 0, 512, .inl a_least)), (q 55, .inl (E.2.1 0, 4, .inl f_124)), (q 54, .inl (E.2.1 0, 7, .inl u_111)), (q 53, .inl (E.2.1 0, 7, .inl (upd u_112 (Int32.toNatClampNeg 4) (-1))))] H := hP
    have hD : va_D A [(h0, .inr (12, mG q i_taped i_size i_sort i_what i_at i_end i_worth i_faultKind i_faultPlace i_got i_worked (nI dl) i_isPlanned u_108 u_109)), (q 51, .inl (E.2.1 0, 512, .inl a_least)), (q 55, .inl (E.2.1 0, 4, .inl f_124)), (q 54, .inl (E.2.1 0, 7, .inl u_111)), (q 53, .inl (E.2.1 0, 7, .inl (upd u_112 (Int32.toNatClampNeg 4) (-1))))] := hD
    obtain ⟨f_126, ef_126⟩ : ∃ g : Nat → Int32, g = upd u_112 (Int32.toNatClampNeg 4) (-1) := ⟨_, rfl⟩
    rw [← ef_126] at hP hD
    refine lv_aload_n hx hb dX12_give_230 rfl (lv_at hl 1 rfl) ?_
    refine lv_iload_n hx hb dX12_give_231 rfl (lv_at hl 2 rfl) ?_
    refine lv_iconst (v := 1) hx hb dX12_give_232 (by decide) ?_
    refine lv_iadd hx hb dX12_give_233 ?_
    refine lv_topi (fun x_127 ex_127 => ?_)
    obtain rfl : x_127 = 5 := ex_127.trans (by decide +kernel)
    have hv4 : ∀ k : Nat, k < 4 + 1 → f_126 k = gI (pg gp 4 4 k) := gv_put (cur := u_112) (gv_cur (gv_cur (gv_cur (gv_cur (fun k hk => rfl) (ef_2.trans (by rw [show Int32.toNatClampNeg 4 = 4 from by decide])) hf_22) (ef_33.trans (by rw [show Int32.toNatClampNeg 4 = 4 from by decide])) hf_53) (ef_64.trans (by rw [show Int32.toNatClampNeg 4 = 4 from by decide])) hf_84) (ef_95.trans (by rw [show Int32.toNatClampNeg 4 = 4 from by decide])) hf_115) hGv (ef_126.trans (by rw [show Int32.toNatClampNeg 4 = 4 from by decide])) (by decide)
    have hPc := hP.sub (ws' := [(h0, .inr (12, mG q i_taped i_size i_sort i_what i_at i_end i_worth i_faultKind i_faultPlace i_got i_worked (nI dl) i_isPlanned u_108 u_109)), (q 51, .inl (E.2.1 0, 512, .inl a_least)), (q 55, .inl (E.2.1 0, 4, .inl f_124)), (q 54, .inl (E.2.1 0, 7, .inl u_111)), (q 53, .inl (E.2.1 0, 7, .inl f_126))]) [0, 1, 2, 3, 4] rfl
    have hDc := hD.sub (ws' := [(h0, .inr (12, mG q i_taped i_size i_sort i_what i_at i_end i_worth i_faultKind i_faultPlace i_got i_worked (nI dl) i_isPlanned u_108 u_109)), (q 51, .inl (E.2.1 0, 512, .inl a_least)), (q 55, .inl (E.2.1 0, 4, .inl f_124)), (q 54, .inl (E.2.1 0, 7, .inl u_111)), (q 53, .inl (E.2.1 0, 7, .inl f_126))]) [0, 1, 2, 3, 4] (by decide) rfl
    have hFc := va_free (wc := [(h0, .inr (12, mG q i_taped i_size i_sort i_what i_at i_end i_worth i_faultKind i_faultPlace i_got i_worked (nI dl) i_isPlanned u_108 u_109)), (q 51, .inl (E.2.1 0, 512, .inl a_least)), (q 55, .inl (E.2.1 0, 4, .inl f_124)), (q 54, .inl (E.2.1 0, 7, .inl u_111)), (q 53, .inl (E.2.1 0, 7, .inl f_126))]) hD hS hA [0, 1, 2, 3, 4] rfl
    refine va_callv (va_runV (As := [.int 5]) (rest := []) ⟨hx, hb, hml, hown, hts⟩ (c_X12_give5 l E h0 q i_taped i_size i_sort i_what i_at i_end i_worth i_faultKind i_faultPlace i_got i_worked i_isPlanned u_108 u_109 dl FF CC (pg gp 4 4) a_least f_124 u_111 f_126 H.size hdl hd2 (pg_le hp (by decide)) (st_none hSt hb3) hv4 (BG_M M_s hw_107) hKm hCb hI_125) (cwV 1 hts gX12_give_X12_give rfl rfl rfl hdV_X12_give ⟨Nat.le_of_ble_eq_true rfl, Nat.le_of_ble_eq_true rfl⟩) ⟨pcW_blind, va_recv hK hPc (ci := 12) (q0 := 0) rfl rfl, (pcW_pre hPc hkn hDc hst hS hFc)⟩ rfl rfl hl.1 rfl (lv_room (Nat.le_of_ble_eq_true rfl)) dX12_give_234 ⟨Nat.le_of_ble_eq_true rfl, Nat.le_of_ble_eq_true rfl⟩) hS (fun q _ h => hFc q h) hFc (fun u t H1 locs ht hvm hw_129 hB hz1 hk1 hS => ?_)
    obtain ⟨u_130, u_131, u_132, u_133, u_134⟩ := u
    obtain ⟨hf_135, hf_136, hf_137, hP1, hD1⟩ := hB
    rw [ht] at hP1
    try dsimp only at hw_129
    obtain ⟨hP, hD⟩ := va_join (wr := []) (w1 := [(h0, .inr (12, mG q i_taped i_size i_sort i_what i_at i_end i_worth i_faultKind i_faultPlace i_got i_worked (nI dl) i_isPlanned u_130 u_131)), (q 51, .inl (E.2.1 0, 512, .inl a_least)), (q 55, .inl (E.2.1 0, 4, .inl u_132)), (q 54, .inl (E.2.1 0, 7, .inl u_133)), (q 53, .inl (E.2.1 0, 7, .inl u_134))]) hP hD [0, 1, 2, 3, 4] [] rfl rfl (by decide) (by decide) hk1 hFc hP1 hD1
    generalize H1 = H at hP hS ⊢
    have hP : va_P E.1 vwCl [(h0, .inr (12, mG q i_taped i_size i_sort i_what i_at i_end i_worth i_faultKind i_faultPlace i_got i_worked (nI dl) i_isPlanned u_130 u_131)), (q 51, .inl (E.2.1 0, 512, .inl a_least)), (q 55, .inl (E.2.1 0, 4, .inl u_132)), (q 54, .inl (E.2.1 0, 7, .inl u_133)), (q 53, .inl (E.2.1 0, 7, .inl u_134))] H := hP
    have hD : va_D A [(h0, .inr (12, mG q i_taped i_size i_sort i_what i_at i_end i_worth i_faultKind i_faultPlace i_got i_worked (nI dl) i_isPlanned u_130 u_131)), (q 51, .inl (E.2.1 0, 512, .inl a_least)), (q 55, .inl (E.2.1 0, 4, .inl u_132)), (q 54, .inl (E.2.1 0, 7, .inl u_133)), (q 53, .inl (E.2.1 0, 7, .inl u_134))] := hD
    have hP9 := hP.sub (ws' := [(h0, .inr (12, mG q i_taped i_size i_sort i_what i_at i_end i_worth i_faultKind i_faultPlace i_got i_worked (nI dl) i_isPlanned u_130 u_131)), (q 51, .inl (E.2.1 0, 512, .inl a_least)), (q 55, .inl (E.2.1 0, 4, .inl u_132)), (q 54, .inl (E.2.1 0, 7, .inl u_133)), (q 53, .inl (E.2.1 0, 7, .inl u_134))]) [0, 1, 2, 3, 4] rfl
    have hD9 := hD.sub (ws' := [(h0, .inr (12, mG q i_taped i_size i_sort i_what i_at i_end i_worth i_faultKind i_faultPlace i_got i_worked (nI dl) i_isPlanned u_130 u_131)), (q 51, .inl (E.2.1 0, 512, .inl a_least)), (q 55, .inl (E.2.1 0, 4, .inl u_132)), (q 54, .inl (E.2.1 0, 7, .inl u_133)), (q 53, .inl (E.2.1 0, 7, .inl u_134))]) [0, 1, 2, 3, 4] (by decide) rfl
    exact W.vret hx hb hr (fun t ht hW => ⟨⟨(u_130, u_131, u_132, u_133, u_134), rfl, (BG_M (M_5 hd2) hw_129), hf_135, (fun i hi => (hf_136 i hi).trans (hb3 i hi)), (gv_cur (gv_cur (gv_cur (gv_cur (gv_cur (fun k hk => rfl) (ef_2.trans (by rw [show Int32.toNatClampNeg 4 = 4 from by decide])) hf_22) (ef_33.trans (by rw [show Int32.toNatClampNeg 4 = 4 from by decide])) hf_53) (ef_64.trans (by rw [show Int32.toNatClampNeg 4 = 4 from by decide])) hf_84) (ef_95.trans (by rw [show Int32.toNatClampNeg 4 = 4 from by decide])) hf_115) (ef_126.trans (by rw [show Int32.toNatClampNeg 4 = 4 from by decide])) hf_137), by rw [ht]; exact hP9, hD9⟩, hS.F ht⟩) hS.2.2 dX12_give_237
  · have hn9 : dl = 4 := ((nI_eq (a := 4) (by decide) (by omega)).mp c_1).symm
    have hB9 := BG_pre hn9 hBG
    have hp9 : ∀ k : Nat, k < dl → gp k ≤ 4 := fun k hk => hp k (by omega)
    refine lv_iconst (v := 0) hx hb dX12_give_8 (by decide) ?_
    refine lv_istore_n (lv' := [(2, .int 0), (0, .ref h0), (1, .int 4)]) hx hb dX12_give_9 rfl hl (by decide) rfl (fun ls hl => ?_)
    refine lv_iconst (v := 0) hx hb dX12_give_10 (by decide) ?_
    refine lv_istore_n (lv' := [(3, .int 0), (2, .int 0), (0, .ref h0), (1, .int 4)]) hx hb dX12_give_11 rfl hl (by decide) rfl (fun ls hl => ?_)
    refine lv_iconst (v := 0) hx hb dX12_give_12 (by decide) ?_
    refine lv_istore (lv' := [(4, .int 0), (3, .int 0), (2, .int 0), (0, .ref h0), (1, .int 4)]) hx hb dX12_give_13 hl (by decide) rfl (fun ls hl => ?_)
    refine lv_iload hx hb dX12_give_15 (lv_at hl 0 rfl) ?_
    refine lv_iconst (v := 4) hx hb dX12_give_17 (by decide) ?_
    refine lv_icmp_ge (tgt := 102) hx hb dX12_give_18 (by decide) (fun c9 => absurd c9 (by decide)) (fun _ => ?_)
    refine lv_aload_n hx hb dX12_give_21 rfl (lv_at hl 3 rfl) ?_
    refine va_get (D := E.1) (ci := 12) (v := .ref (q 51)) (C := RX12) (T := TX12) (N := 59) hx hb hts inX12 hown hK hP 0 rfl rfl 51 (by decide) fl130 (fun _ h9 => h9) rfl dX12_give_22 ?_
    refine lv_sipush (v := 128) hx hb dX12_give_25 (by decide) ?_
    refine lv_iload hx hb dX12_give_28 (lv_at hl 0 rfl) ?_
    refine lv_imul hx hb dX12_give_30 ?_
    refine lv_topi (fun x_138 ex_138 => ?_)
    obtain rfl : x_138 = 0 := ex_138.trans (by decide +kernel)
    refine lv_aload_n hx hb dX12_give_31 rfl (lv_at hl 3 rfl) ?_
    refine va_get (D := E.1) (ci := 12) (v := .ref (q 55)) (C := RX12) (T := TX12) (N := 59) hx hb hts inX12 hown hK hP 0 rfl rfl 55 (by decide) fl142 (fun _ h9 => h9) rfl dX12_give_32 ?_
    refine lv_iload hx hb dX12_give_35 (lv_at hl 0 rfl) ?_
    refine va_iald hx hb hK hP 2 0 rfl rfl (show vp_in 0 4 from by unfold vp_in; decide) dX12_give_37 ?_
    refine lv_topi (fun x_139 ex_139 => ?_)
    have hv_140 : inR x_139 0 127 = true := by rw [ex_139]; exact hI_sets _ (vin_cl (show vp_in 0 4 from by unfold vp_in; decide))
    obtain ⟨w_141, hw_142, ew_143⟩ := inR_nI (n := 127) (by decide) hv_140
    subst ew_143
    have hw09 : w_141 = setOf gp 0 dl := by rw [hn9]; exact nI_inj (by omega) (s128 gp 0 (by decide)) (ex_139.trans (by rw [show Int32.toNatClampNeg 0 = 0 from by decide]; exact hSt 0 (by decide)))
    refine lv_iadd hx hb dX12_give_38 ?_
    refine lv_topi (fun x_144 ex_144 => ?_)
    obtain rfl : x_144 = nI (0 + w_141) := ex_144.trans (nI_add 0 w_141)
    have hi_145 : vp_in (nI (0 + w_141)) 512 := vp_in_nI (by omega) (by decide)
    refine va_iald hx hb hK hP 1 0 rfl rfl hi_145 dX12_give_39 ?_
    refine lv_topi (fun x_146 ex_146 => ?_)
    refine lv_iconst (v := (-1)) hx hb dX12_give_40 (by decide) ?_
    refine lv_icmp_ne (tgt := 45) hx hb dX12_give_41 (by decide) (fun c_147 => ?_) (fun c_147 => ?_)
    · have hn09 : ¬ a_least (128 * 0 + w_141) = -1 := fun q9 => c_147 (ex_146.trans (by rw [nI_clamp (by omega)]; exact q9))
      have hk0 : FF 0 (setOf gp 0 dl) := by rw [← hw09]; exact (hKm 0 (by decide) w_141 (by omega)).1.mp hn09
      refine lv_iload_n hx hb dX12_give_45 rfl (lv_at hl 1 rfl) ?_
      refine lv_aload_n hx hb dX12_give_46 rfl (lv_at hl 3 rfl) ?_
      refine va_get (D := E.1) (ci := 12) (v := .ref (q 51)) (C := RX12) (T := TX12) (N := 59) hx hb hts inX12 hown hK hP 0 rfl rfl 51 (by decide) fl130 (fun _ h9 => h9) rfl dX12_give_47 ?_
      refine lv_sipush (v := 128) hx hb dX12_give_50 (by decide) ?_
      refine lv_iload hx hb dX12_give_53 (lv_at hl 0 rfl) ?_
      refine lv_imul hx hb dX12_give_55 ?_
      refine lv_topi (fun x_148 ex_148 => ?_)
      obtain rfl : x_148 = 0 := ex_148.trans (by decide +kernel)
      refine lv_aload_n hx hb dX12_give_56 rfl (lv_at hl 3 rfl) ?_
      refine va_get (D := E.1) (ci := 12) (v := .ref (q 55)) (C := RX12) (T := TX12) (N := 59) hx hb hts inX12 hown hK hP 0 rfl rfl 55 (by decide) fl142 (fun _ h9 => h9) rfl dX12_give_57 ?_
      refine lv_iload hx hb dX12_give_60 (lv_at hl 0 rfl) ?_
      refine va_iald hx hb hK hP 2 0 rfl rfl (show vp_in 0 4 from by unfold vp_in; decide) dX12_give_62 ?_
      refine lv_topi (fun x_149 ex_149 => ?_)
      obtain rfl : x_149 = nI w_141 := ex_149.trans ex_139.symm
      refine lv_iadd hx hb dX12_give_63 ?_
      refine lv_topi (fun x_150 ex_150 => ?_)
      obtain rfl : x_150 = nI (0 + w_141) := ex_150.trans (nI_add 0 w_141)
      refine va_iald hx hb hK hP 1 0 rfl rfl hi_145 dX12_give_64 ?_
      refine lv_topi (fun x_151 ex_151 => ?_)
      refine lv_iadd hx hb dX12_give_65 ?_
      refine lv_topi (fun x_152 ex_152 => ?_)
      have hc09 := cost_nx (c := 0) (c2 := 1) (co_0 CC gp dl) (x := x_151) (co2 := x_152) ((by rw [ex_151, nI_clamp (by omega)]; exact (hKm 0 (by decide) w_141 (by omega)).2 hn09 : x_151.toInt = CC 0 w_141).trans (by rw [hw09])) (hCb 0 (by decide) _ hk0) ex_152 rfl (by decide)
      refine lv_istore_n (lv' := [(3, .int x_152), (4, .int 0), (2, .int 0), (0, .ref h0), (1, .int 4)]) hx hb dX12_give_66 rfl hl (by decide) rfl (fun ls hl => ?_)
      refine lv_aload_n hx hb dX12_give_67 rfl (lv_at hl 3 rfl) ?_
      refine va_get (D := E.1) (ci := 12) (v := .ref (q 55)) (C := RX12) (T := TX12) (N := 59) hx hb hts inX12 hown hK hP 0 rfl rfl 55 (by decide) fl142 (fun _ h9 => h9) rfl dX12_give_68 ?_
      refine lv_iload hx hb dX12_give_71 (lv_at hl 1 rfl) ?_
      refine va_iald hx hb hK hP 2 0 rfl rfl (show vp_in 0 4 from by unfold vp_in; decide) dX12_give_73 ?_
      refine lv_topi (fun x_153 ex_153 => ?_)
      obtain rfl : x_153 = nI w_141 := ex_153.trans ex_139.symm
      refine lv_istore (lv' := [(5, .int (nI w_141)), (3, .int x_152), (4, .int 0), (2, .int 0), (0, .ref h0), (1, .int 4)]) hx hb dX12_give_74 hl (by decide) rfl (fun ls hl => ?_)
      have hPl := hP.sub (ws' := [(h0, .inr (12, mG q i_taped i_size i_sort i_what i_at i_end i_worth i_faultKind i_faultPlace i_got i_worked (nI dl) i_isPlanned i_bestDone i_bestCost)), (q 51, .inl (E.2.1 0, 512, .inl a_least)), (q 55, .inl (E.2.1 0, 4, .inl a_sets)), (q 54, .inl (E.2.1 0, 7, .inl a_bestGiven)), (q 53, .inl (E.2.1 0, 7, .inl a_given))]) [0, 1, 2, 3, 4] rfl
      have hDl := hD.sub (ws' := [(h0, .inr (12, mG q i_taped i_size i_sort i_what i_at i_end i_worth i_faultKind i_faultPlace i_got i_worked (nI dl) i_isPlanned i_bestDone i_bestCost)), (q 51, .inl (E.2.1 0, 512, .inl a_least)), (q 55, .inl (E.2.1 0, 4, .inl a_sets)), (q 54, .inl (E.2.1 0, 7, .inl a_bestGiven)), (q 53, .inl (E.2.1 0, 7, .inl a_given))]) [0, 1, 2, 3, 4] (by decide) rfl
      refine lm_bits E h0 q i_taped i_size i_sort i_what i_at i_end i_worth i_faultKind i_faultPlace i_got i_worked i_isPlanned i_bestDone i_bestCost dl (0 + pc7 w_141) x_152 0 ([(q 51, .inl (E.2.1 0, 512, .inl a_least)), (q 55, .inl (E.2.1 0, 4, .inl a_sets)), (q 54, .inl (E.2.1 0, 7, .inl a_bestGiven)), (q 53, .inl (E.2.1 0, 7, .inl a_given))]) hx hb hml hown hts hkn hst hA  (fun n_154 H locs ls hm hP hD hS hl => ?_) (w_141 + 1) w_141 0 _ _ _ (Nat.lt_succ_self _) (by omega) rfl hPl hDl hS (lv_sub hl [4, 3, 1, 2, 0] rfl)
      have hP : va_P E.1 vwCl [(h0, .inr (12, mG q i_taped i_size i_sort i_what i_at i_end i_worth i_faultKind i_faultPlace i_got i_worked (nI dl) i_isPlanned i_bestDone i_bestCost)), (q 51, .inl (E.2.1 0, 512, .inl a_least)), (q 55, .inl (E.2.1 0, 4, .inl a_sets)), (q 54, .inl (E.2.1 0, 7, .inl a_bestGiven)), (q 53, .inl (E.2.1 0, 7, .inl a_given))] H := hP
      have hD : va_D A [(h0, .inr (12, mG q i_taped i_size i_sort i_what i_at i_end i_worth i_faultKind i_faultPlace i_got i_worked (nI dl) i_isPlanned i_bestDone i_bestCost)), (q 51, .inl (E.2.1 0, 512, .inl a_least)), (q 55, .inl (E.2.1 0, 4, .inl a_sets)), (q 54, .inl (E.2.1 0, 7, .inl a_bestGiven)), (q 53, .inl (E.2.1 0, 7, .inl a_given))] := hD
      have hm0 := hm
      refine lv_iinc (v := 1) (lv' := [(4, .int 1), (0, .ref h0), (2, .int (nI n_154)), (3, .int x_152)]) hx hb dX12_give_96 hl (k := 3) rfl (by decide) (by decide) rfl (fun ls hl => ?_)
      refine lv_goto (tgt := 15) hx hb dX12_give_99 (by decide) ?_
      refine lv_iload hx hb dX12_give_15 (lv_at hl 0 rfl) ?_
      refine lv_iconst (v := 4) hx hb dX12_give_17 (by decide) ?_
      refine lv_icmp_ge (tgt := 102) hx hb dX12_give_18 (by decide) (fun c9 => absurd c9 (by decide)) (fun _ => ?_)
      refine lv_aload_n hx hb dX12_give_21 rfl (lv_at hl 1 rfl) ?_
      refine va_get (D := E.1) (ci := 12) (v := .ref (q 51)) (C := RX12) (T := TX12) (N := 59) hx hb hts inX12 hown hK hP 0 rfl rfl 51 (by decide) fl130 (fun _ h9 => h9) rfl dX12_give_22 ?_
      refine lv_sipush (v := 128) hx hb dX12_give_25 (by decide) ?_
      refine lv_iload hx hb dX12_give_28 (lv_at hl 0 rfl) ?_
      refine lv_imul hx hb dX12_give_30 ?_
      refine lv_topi (fun x_155 ex_155 => ?_)
      obtain rfl : x_155 = 128 := ex_155.trans (by decide +kernel)
      refine lv_aload_n hx hb dX12_give_31 rfl (lv_at hl 1 rfl) ?_
      refine va_get (D := E.1) (ci := 12) (v := .ref (q 55)) (C := RX12) (T := TX12) (N := 59) hx hb hts inX12 hown hK hP 0 rfl rfl 55 (by decide) fl142 (fun _ h9 => h9) rfl dX12_give_32 ?_
      refine lv_iload hx hb dX12_give_35 (lv_at hl 0 rfl) ?_
      refine va_iald hx hb hK hP 2 0 rfl rfl (show vp_in 1 4 from by unfold vp_in; decide) dX12_give_37 ?_
      refine lv_topi (fun x_156 ex_156 => ?_)
      have hv_157 : inR x_156 0 127 = true := by rw [ex_156]; exact hI_sets _ (vin_cl (show vp_in 1 4 from by unfold vp_in; decide))
      obtain ⟨w_158, hw_159, ew_160⟩ := inR_nI (n := 127) (by decide) hv_157
      subst ew_160
      have hw19 : w_158 = setOf gp 1 dl := by rw [hn9]; exact nI_inj (by omega) (s128 gp 1 (by decide)) (ex_156.trans (by rw [show Int32.toNatClampNeg 1 = 1 from by decide]; exact hSt 1 (by decide)))
      refine lv_iadd hx hb dX12_give_38 ?_
      refine lv_topi (fun x_161 ex_161 => ?_)
      obtain rfl : x_161 = nI (128 + w_158) := ex_161.trans (nI_add 128 w_158)
      have hi_162 : vp_in (nI (128 + w_158)) 512 := vp_in_nI (by omega) (by decide)
      refine va_iald hx hb hK hP 1 0 rfl rfl hi_162 dX12_give_39 ?_
      refine lv_topi (fun x_163 ex_163 => ?_)
      refine lv_iconst (v := (-1)) hx hb dX12_give_40 (by decide) ?_
      refine lv_icmp_ne (tgt := 45) hx hb dX12_give_41 (by decide) (fun c_164 => ?_) (fun c_164 => ?_)
      · have hn19 : ¬ a_least (128 * 1 + w_158) = -1 := fun q9 => c_164 (ex_163.trans (by rw [nI_clamp (by omega)]; exact q9))
        have hk1 : FF 1 (setOf gp 1 dl) := by rw [← hw19]; exact (hKm 1 (by decide) w_158 (by omega)).1.mp hn19
        refine lv_iload_n hx hb dX12_give_45 rfl (lv_at hl 3 rfl) ?_
        refine lv_aload_n hx hb dX12_give_46 rfl (lv_at hl 1 rfl) ?_
        refine va_get (D := E.1) (ci := 12) (v := .ref (q 51)) (C := RX12) (T := TX12) (N := 59) hx hb hts inX12 hown hK hP 0 rfl rfl 51 (by decide) fl130 (fun _ h9 => h9) rfl dX12_give_47 ?_
        refine lv_sipush (v := 128) hx hb dX12_give_50 (by decide) ?_
        refine lv_iload hx hb dX12_give_53 (lv_at hl 0 rfl) ?_
        refine lv_imul hx hb dX12_give_55 ?_
        refine lv_topi (fun x_165 ex_165 => ?_)
        obtain rfl : x_165 = 128 := ex_165.trans (by decide +kernel)
        refine lv_aload_n hx hb dX12_give_56 rfl (lv_at hl 1 rfl) ?_
        refine va_get (D := E.1) (ci := 12) (v := .ref (q 55)) (C := RX12) (T := TX12) (N := 59) hx hb hts inX12 hown hK hP 0 rfl rfl 55 (by decide) fl142 (fun _ h9 => h9) rfl dX12_give_57 ?_
        refine lv_iload hx hb dX12_give_60 (lv_at hl 0 rfl) ?_
        refine va_iald hx hb hK hP 2 0 rfl rfl (show vp_in 1 4 from by unfold vp_in; decide) dX12_give_62 ?_
        refine lv_topi (fun x_166 ex_166 => ?_)
        obtain rfl : x_166 = nI w_158 := ex_166.trans ex_156.symm
        refine lv_iadd hx hb dX12_give_63 ?_
        refine lv_topi (fun x_167 ex_167 => ?_)
        obtain rfl : x_167 = nI (128 + w_158) := ex_167.trans (nI_add 128 w_158)
        refine va_iald hx hb hK hP 1 0 rfl rfl hi_162 dX12_give_64 ?_
        refine lv_topi (fun x_168 ex_168 => ?_)
        refine lv_iadd hx hb dX12_give_65 ?_
        refine lv_topi (fun x_169 ex_169 => ?_)
        have hc19 := cost_nx (c := 1) (c2 := 2) hc09 (x := x_168) (co2 := x_169) ((by rw [ex_168, nI_clamp (by omega)]; exact (hKm 1 (by decide) w_158 (by omega)).2 hn19 : x_168.toInt = CC 1 w_158).trans (by rw [hw19])) (hCb 1 (by decide) _ hk1) ex_169 rfl (by decide)
        refine lv_istore_n (lv' := [(3, .int x_169), (4, .int 1), (0, .ref h0), (2, .int (nI n_154))]) hx hb dX12_give_66 rfl hl (by decide) rfl (fun ls hl => ?_)
        refine lv_aload_n hx hb dX12_give_67 rfl (lv_at hl 2 rfl) ?_
        refine va_get (D := E.1) (ci := 12) (v := .ref (q 55)) (C := RX12) (T := TX12) (N := 59) hx hb hts inX12 hown hK hP 0 rfl rfl 55 (by decide) fl142 (fun _ h9 => h9) rfl dX12_give_68 ?_
        refine lv_iload hx hb dX12_give_71 (lv_at hl 1 rfl) ?_
        refine va_iald hx hb hK hP 2 0 rfl rfl (show vp_in 1 4 from by unfold vp_in; decide) dX12_give_73 ?_
        refine lv_topi (fun x_170 ex_170 => ?_)
        obtain rfl : x_170 = nI w_158 := ex_170.trans ex_156.symm
        refine lv_istore (lv' := [(5, .int (nI w_158)), (3, .int x_169), (4, .int 1), (0, .ref h0), (2, .int (nI n_154))]) hx hb dX12_give_74 hl (by decide) rfl (fun ls hl => ?_)
        have hPl := hP.sub (ws' := [(h0, .inr (12, mG q i_taped i_size i_sort i_what i_at i_end i_worth i_faultKind i_faultPlace i_got i_worked (nI dl) i_isPlanned i_bestDone i_bestCost)), (q 51, .inl (E.2.1 0, 512, .inl a_least)), (q 55, .inl (E.2.1 0, 4, .inl a_sets)), (q 54, .inl (E.2.1 0, 7, .inl a_bestGiven)), (q 53, .inl (E.2.1 0, 7, .inl a_given))]) [0, 1, 2, 3, 4] rfl
        have hDl := hD.sub (ws' := [(h0, .inr (12, mG q i_taped i_size i_sort i_what i_at i_end i_worth i_faultKind i_faultPlace i_got i_worked (nI dl) i_isPlanned i_bestDone i_bestCost)), (q 51, .inl (E.2.1 0, 512, .inl a_least)), (q 55, .inl (E.2.1 0, 4, .inl a_sets)), (q 54, .inl (E.2.1 0, 7, .inl a_bestGiven)), (q 53, .inl (E.2.1 0, 7, .inl a_given))]) [0, 1, 2, 3, 4] (by decide) rfl
        refine lm_bits E h0 q i_taped i_size i_sort i_what i_at i_end i_worth i_faultKind i_faultPlace i_got i_worked i_isPlanned i_bestDone i_bestCost dl (n_154 + pc7 w_158) x_169 1 ([(q 51, .inl (E.2.1 0, 512, .inl a_least)), (q 55, .inl (E.2.1 0, 4, .inl a_sets)), (q 54, .inl (E.2.1 0, 7, .inl a_bestGiven)), (q 53, .inl (E.2.1 0, 7, .inl a_given))]) hx hb hml hown hts hkn hst hA  (fun n_171 H locs ls hm hP hD hS hl => ?_) (w_158 + 1) w_158 n_154 _ _ _ (Nat.lt_succ_self _) (by omega) rfl hPl hDl hS (lv_sub hl [3, 4, 1, 2, 0] rfl)
        have hP : va_P E.1 vwCl [(h0, .inr (12, mG q i_taped i_size i_sort i_what i_at i_end i_worth i_faultKind i_faultPlace i_got i_worked (nI dl) i_isPlanned i_bestDone i_bestCost)), (q 51, .inl (E.2.1 0, 512, .inl a_least)), (q 55, .inl (E.2.1 0, 4, .inl a_sets)), (q 54, .inl (E.2.1 0, 7, .inl a_bestGiven)), (q 53, .inl (E.2.1 0, 7, .inl a_given))] H := hP
        have hD : va_D A [(h0, .inr (12, mG q i_taped i_size i_sort i_what i_at i_end i_worth i_faultKind i_faultPlace i_got i_worked (nI dl) i_isPlanned i_bestDone i_bestCost)), (q 51, .inl (E.2.1 0, 512, .inl a_least)), (q 55, .inl (E.2.1 0, 4, .inl a_sets)), (q 54, .inl (E.2.1 0, 7, .inl a_bestGiven)), (q 53, .inl (E.2.1 0, 7, .inl a_given))] := hD
        have hm1 := hm
        refine lv_iinc (v := 2) (lv' := [(4, .int 2), (0, .ref h0), (2, .int (nI n_171)), (3, .int x_169)]) hx hb dX12_give_96 hl (k := 3) rfl (by decide) (by decide) rfl (fun ls hl => ?_)
        refine lv_goto (tgt := 15) hx hb dX12_give_99 (by decide) ?_
        refine lv_iload hx hb dX12_give_15 (lv_at hl 0 rfl) ?_
        refine lv_iconst (v := 4) hx hb dX12_give_17 (by decide) ?_
        refine lv_icmp_ge (tgt := 102) hx hb dX12_give_18 (by decide) (fun c9 => absurd c9 (by decide)) (fun _ => ?_)
        refine lv_aload_n hx hb dX12_give_21 rfl (lv_at hl 1 rfl) ?_
        refine va_get (D := E.1) (ci := 12) (v := .ref (q 51)) (C := RX12) (T := TX12) (N := 59) hx hb hts inX12 hown hK hP 0 rfl rfl 51 (by decide) fl130 (fun _ h9 => h9) rfl dX12_give_22 ?_
        refine lv_sipush (v := 128) hx hb dX12_give_25 (by decide) ?_
        refine lv_iload hx hb dX12_give_28 (lv_at hl 0 rfl) ?_
        refine lv_imul hx hb dX12_give_30 ?_
        refine lv_topi (fun x_172 ex_172 => ?_)
        obtain rfl : x_172 = 256 := ex_172.trans (by decide +kernel)
        refine lv_aload_n hx hb dX12_give_31 rfl (lv_at hl 1 rfl) ?_
        refine va_get (D := E.1) (ci := 12) (v := .ref (q 55)) (C := RX12) (T := TX12) (N := 59) hx hb hts inX12 hown hK hP 0 rfl rfl 55 (by decide) fl142 (fun _ h9 => h9) rfl dX12_give_32 ?_
        refine lv_iload hx hb dX12_give_35 (lv_at hl 0 rfl) ?_
        refine va_iald hx hb hK hP 2 0 rfl rfl (show vp_in 2 4 from by unfold vp_in; decide) dX12_give_37 ?_
        refine lv_topi (fun x_173 ex_173 => ?_)
        have hv_174 : inR x_173 0 127 = true := by rw [ex_173]; exact hI_sets _ (vin_cl (show vp_in 2 4 from by unfold vp_in; decide))
        obtain ⟨w_175, hw_176, ew_177⟩ := inR_nI (n := 127) (by decide) hv_174
        subst ew_177
        have hw29 : w_175 = setOf gp 2 dl := by rw [hn9]; exact nI_inj (by omega) (s128 gp 2 (by decide)) (ex_173.trans (by rw [show Int32.toNatClampNeg 2 = 2 from by decide]; exact hSt 2 (by decide)))
        refine lv_iadd hx hb dX12_give_38 ?_
        refine lv_topi (fun x_178 ex_178 => ?_)
        obtain rfl : x_178 = nI (256 + w_175) := ex_178.trans (nI_add 256 w_175)
        have hi_179 : vp_in (nI (256 + w_175)) 512 := vp_in_nI (by omega) (by decide)
        refine va_iald hx hb hK hP 1 0 rfl rfl hi_179 dX12_give_39 ?_
        refine lv_topi (fun x_180 ex_180 => ?_)
        refine lv_iconst (v := (-1)) hx hb dX12_give_40 (by decide) ?_
        refine lv_icmp_ne (tgt := 45) hx hb dX12_give_41 (by decide) (fun c_181 => ?_) (fun c_181 => ?_)
        · have hn29 : ¬ a_least (128 * 2 + w_175) = -1 := fun q9 => c_181 (ex_180.trans (by rw [nI_clamp (by omega)]; exact q9))
          have hk2 : FF 2 (setOf gp 2 dl) := by rw [← hw29]; exact (hKm 2 (by decide) w_175 (by omega)).1.mp hn29
          refine lv_iload_n hx hb dX12_give_45 rfl (lv_at hl 3 rfl) ?_
          refine lv_aload_n hx hb dX12_give_46 rfl (lv_at hl 1 rfl) ?_
          refine va_get (D := E.1) (ci := 12) (v := .ref (q 51)) (C := RX12) (T := TX12) (N := 59) hx hb hts inX12 hown hK hP 0 rfl rfl 51 (by decide) fl130 (fun _ h9 => h9) rfl dX12_give_47 ?_
          refine lv_sipush (v := 128) hx hb dX12_give_50 (by decide) ?_
          refine lv_iload hx hb dX12_give_53 (lv_at hl 0 rfl) ?_
          refine lv_imul hx hb dX12_give_55 ?_
          refine lv_topi (fun x_182 ex_182 => ?_)
          obtain rfl : x_182 = 256 := ex_182.trans (by decide +kernel)
          refine lv_aload_n hx hb dX12_give_56 rfl (lv_at hl 1 rfl) ?_
          refine va_get (D := E.1) (ci := 12) (v := .ref (q 55)) (C := RX12) (T := TX12) (N := 59) hx hb hts inX12 hown hK hP 0 rfl rfl 55 (by decide) fl142 (fun _ h9 => h9) rfl dX12_give_57 ?_
          refine lv_iload hx hb dX12_give_60 (lv_at hl 0 rfl) ?_
          refine va_iald hx hb hK hP 2 0 rfl rfl (show vp_in 2 4 from by unfold vp_in; decide) dX12_give_62 ?_
          refine lv_topi (fun x_183 ex_183 => ?_)
          obtain rfl : x_183 = nI w_175 := ex_183.trans ex_173.symm
          refine lv_iadd hx hb dX12_give_63 ?_
          refine lv_topi (fun x_184 ex_184 => ?_)
          obtain rfl : x_184 = nI (256 + w_175) := ex_184.trans (nI_add 256 w_175)
          refine va_iald hx hb hK hP 1 0 rfl rfl hi_179 dX12_give_64 ?_
          refine lv_topi (fun x_185 ex_185 => ?_)
          refine lv_iadd hx hb dX12_give_65 ?_
          refine lv_topi (fun x_186 ex_186 => ?_)
          have hc29 := cost_nx (c := 2) (c2 := 3) hc19 (x := x_185) (co2 := x_186) ((by rw [ex_185, nI_clamp (by omega)]; exact (hKm 2 (by decide) w_175 (by omega)).2 hn29 : x_185.toInt = CC 2 w_175).trans (by rw [hw29])) (hCb 2 (by decide) _ hk2) ex_186 rfl (by decide)
          refine lv_istore_n (lv' := [(3, .int x_186), (4, .int 2), (0, .ref h0), (2, .int (nI n_171))]) hx hb dX12_give_66 rfl hl (by decide) rfl (fun ls hl => ?_)
          refine lv_aload_n hx hb dX12_give_67 rfl (lv_at hl 2 rfl) ?_
          refine va_get (D := E.1) (ci := 12) (v := .ref (q 55)) (C := RX12) (T := TX12) (N := 59) hx hb hts inX12 hown hK hP 0 rfl rfl 55 (by decide) fl142 (fun _ h9 => h9) rfl dX12_give_68 ?_
          refine lv_iload hx hb dX12_give_71 (lv_at hl 1 rfl) ?_
          refine va_iald hx hb hK hP 2 0 rfl rfl (show vp_in 2 4 from by unfold vp_in; decide) dX12_give_73 ?_
          refine lv_topi (fun x_187 ex_187 => ?_)
          obtain rfl : x_187 = nI w_175 := ex_187.trans ex_173.symm
          refine lv_istore (lv' := [(5, .int (nI w_175)), (3, .int x_186), (4, .int 2), (0, .ref h0), (2, .int (nI n_171))]) hx hb dX12_give_74 hl (by decide) rfl (fun ls hl => ?_)
          have hPl := hP.sub (ws' := [(h0, .inr (12, mG q i_taped i_size i_sort i_what i_at i_end i_worth i_faultKind i_faultPlace i_got i_worked (nI dl) i_isPlanned i_bestDone i_bestCost)), (q 51, .inl (E.2.1 0, 512, .inl a_least)), (q 55, .inl (E.2.1 0, 4, .inl a_sets)), (q 54, .inl (E.2.1 0, 7, .inl a_bestGiven)), (q 53, .inl (E.2.1 0, 7, .inl a_given))]) [0, 1, 2, 3, 4] rfl
          have hDl := hD.sub (ws' := [(h0, .inr (12, mG q i_taped i_size i_sort i_what i_at i_end i_worth i_faultKind i_faultPlace i_got i_worked (nI dl) i_isPlanned i_bestDone i_bestCost)), (q 51, .inl (E.2.1 0, 512, .inl a_least)), (q 55, .inl (E.2.1 0, 4, .inl a_sets)), (q 54, .inl (E.2.1 0, 7, .inl a_bestGiven)), (q 53, .inl (E.2.1 0, 7, .inl a_given))]) [0, 1, 2, 3, 4] (by decide) rfl
          refine lm_bits E h0 q i_taped i_size i_sort i_what i_at i_end i_worth i_faultKind i_faultPlace i_got i_worked i_isPlanned i_bestDone i_bestCost dl (n_171 + pc7 w_175) x_186 2 ([(q 51, .inl (E.2.1 0, 512, .inl a_least)), (q 55, .inl (E.2.1 0, 4, .inl a_sets)), (q 54, .inl (E.2.1 0, 7, .inl a_bestGiven)), (q 53, .inl (E.2.1 0, 7, .inl a_given))]) hx hb hml hown hts hkn hst hA  (fun n_188 H locs ls hm hP hD hS hl => ?_) (w_175 + 1) w_175 n_171 _ _ _ (Nat.lt_succ_self _) (by omega) rfl hPl hDl hS (lv_sub hl [3, 4, 1, 2, 0] rfl)
          have hP : va_P E.1 vwCl [(h0, .inr (12, mG q i_taped i_size i_sort i_what i_at i_end i_worth i_faultKind i_faultPlace i_got i_worked (nI dl) i_isPlanned i_bestDone i_bestCost)), (q 51, .inl (E.2.1 0, 512, .inl a_least)), (q 55, .inl (E.2.1 0, 4, .inl a_sets)), (q 54, .inl (E.2.1 0, 7, .inl a_bestGiven)), (q 53, .inl (E.2.1 0, 7, .inl a_given))] H := hP
          have hD : va_D A [(h0, .inr (12, mG q i_taped i_size i_sort i_what i_at i_end i_worth i_faultKind i_faultPlace i_got i_worked (nI dl) i_isPlanned i_bestDone i_bestCost)), (q 51, .inl (E.2.1 0, 512, .inl a_least)), (q 55, .inl (E.2.1 0, 4, .inl a_sets)), (q 54, .inl (E.2.1 0, 7, .inl a_bestGiven)), (q 53, .inl (E.2.1 0, 7, .inl a_given))] := hD
          have hm2 := hm
          refine lv_iinc (v := 3) (lv' := [(4, .int 3), (0, .ref h0), (2, .int (nI n_188)), (3, .int x_186)]) hx hb dX12_give_96 hl (k := 3) rfl (by decide) (by decide) rfl (fun ls hl => ?_)
          refine lv_goto (tgt := 15) hx hb dX12_give_99 (by decide) ?_
          refine lv_iload hx hb dX12_give_15 (lv_at hl 0 rfl) ?_
          refine lv_iconst (v := 4) hx hb dX12_give_17 (by decide) ?_
          refine lv_icmp_ge (tgt := 102) hx hb dX12_give_18 (by decide) (fun c9 => absurd c9 (by decide)) (fun _ => ?_)
          refine lv_aload_n hx hb dX12_give_21 rfl (lv_at hl 1 rfl) ?_
          refine va_get (D := E.1) (ci := 12) (v := .ref (q 51)) (C := RX12) (T := TX12) (N := 59) hx hb hts inX12 hown hK hP 0 rfl rfl 51 (by decide) fl130 (fun _ h9 => h9) rfl dX12_give_22 ?_
          refine lv_sipush (v := 128) hx hb dX12_give_25 (by decide) ?_
          refine lv_iload hx hb dX12_give_28 (lv_at hl 0 rfl) ?_
          refine lv_imul hx hb dX12_give_30 ?_
          refine lv_topi (fun x_189 ex_189 => ?_)
          obtain rfl : x_189 = 384 := ex_189.trans (by decide +kernel)
          refine lv_aload_n hx hb dX12_give_31 rfl (lv_at hl 1 rfl) ?_
          refine va_get (D := E.1) (ci := 12) (v := .ref (q 55)) (C := RX12) (T := TX12) (N := 59) hx hb hts inX12 hown hK hP 0 rfl rfl 55 (by decide) fl142 (fun _ h9 => h9) rfl dX12_give_32 ?_
          refine lv_iload hx hb dX12_give_35 (lv_at hl 0 rfl) ?_
          refine va_iald hx hb hK hP 2 0 rfl rfl (show vp_in 3 4 from by unfold vp_in; decide) dX12_give_37 ?_
          refine lv_topi (fun x_190 ex_190 => ?_)
          have hv_191 : inR x_190 0 127 = true := by rw [ex_190]; exact hI_sets _ (vin_cl (show vp_in 3 4 from by unfold vp_in; decide))
          obtain ⟨w_192, hw_193, ew_194⟩ := inR_nI (n := 127) (by decide) hv_191
          subst ew_194
          have hw39 : w_192 = setOf gp 3 dl := by rw [hn9]; exact nI_inj (by omega) (s128 gp 3 (by decide)) (ex_190.trans (by rw [show Int32.toNatClampNeg 3 = 3 from by decide]; exact hSt 3 (by decide)))
          refine lv_iadd hx hb dX12_give_38 ?_
          refine lv_topi (fun x_195 ex_195 => ?_)
          obtain rfl : x_195 = nI (384 + w_192) := ex_195.trans (nI_add 384 w_192)
          have hi_196 : vp_in (nI (384 + w_192)) 512 := vp_in_nI (by omega) (by decide)
          refine va_iald hx hb hK hP 1 0 rfl rfl hi_196 dX12_give_39 ?_
          refine lv_topi (fun x_197 ex_197 => ?_)
          refine lv_iconst (v := (-1)) hx hb dX12_give_40 (by decide) ?_
          refine lv_icmp_ne (tgt := 45) hx hb dX12_give_41 (by decide) (fun c_198 => ?_) (fun c_198 => ?_)
          · have hn39 : ¬ a_least (128 * 3 + w_192) = -1 := fun q9 => c_198 (ex_197.trans (by rw [nI_clamp (by omega)]; exact q9))
            have hk3 : FF 3 (setOf gp 3 dl) := by rw [← hw39]; exact (hKm 3 (by decide) w_192 (by omega)).1.mp hn39
            refine lv_iload_n hx hb dX12_give_45 rfl (lv_at hl 3 rfl) ?_
            refine lv_aload_n hx hb dX12_give_46 rfl (lv_at hl 1 rfl) ?_
            refine va_get (D := E.1) (ci := 12) (v := .ref (q 51)) (C := RX12) (T := TX12) (N := 59) hx hb hts inX12 hown hK hP 0 rfl rfl 51 (by decide) fl130 (fun _ h9 => h9) rfl dX12_give_47 ?_
            refine lv_sipush (v := 128) hx hb dX12_give_50 (by decide) ?_
            refine lv_iload hx hb dX12_give_53 (lv_at hl 0 rfl) ?_
            refine lv_imul hx hb dX12_give_55 ?_
            refine lv_topi (fun x_199 ex_199 => ?_)
            obtain rfl : x_199 = 384 := ex_199.trans (by decide +kernel)
            refine lv_aload_n hx hb dX12_give_56 rfl (lv_at hl 1 rfl) ?_
            refine va_get (D := E.1) (ci := 12) (v := .ref (q 55)) (C := RX12) (T := TX12) (N := 59) hx hb hts inX12 hown hK hP 0 rfl rfl 55 (by decide) fl142 (fun _ h9 => h9) rfl dX12_give_57 ?_
            refine lv_iload hx hb dX12_give_60 (lv_at hl 0 rfl) ?_
            refine va_iald hx hb hK hP 2 0 rfl rfl (show vp_in 3 4 from by unfold vp_in; decide) dX12_give_62 ?_
            refine lv_topi (fun x_200 ex_200 => ?_)
            obtain rfl : x_200 = nI w_192 := ex_200.trans ex_190.symm
            refine lv_iadd hx hb dX12_give_63 ?_
            refine lv_topi (fun x_201 ex_201 => ?_)
            obtain rfl : x_201 = nI (384 + w_192) := ex_201.trans (nI_add 384 w_192)
            refine va_iald hx hb hK hP 1 0 rfl rfl hi_196 dX12_give_64 ?_
            refine lv_topi (fun x_202 ex_202 => ?_)
            refine lv_iadd hx hb dX12_give_65 ?_
            refine lv_topi (fun x_203 ex_203 => ?_)
            have hc39 := cost_nx (c := 3) (c2 := 4) hc29 (x := x_202) (co2 := x_203) ((by rw [ex_202, nI_clamp (by omega)]; exact (hKm 3 (by decide) w_192 (by omega)).2 hn39 : x_202.toInt = CC 3 w_192).trans (by rw [hw39])) (hCb 3 (by decide) _ hk3) ex_203 rfl (by decide)
            refine lv_istore_n (lv' := [(3, .int x_203), (4, .int 3), (0, .ref h0), (2, .int (nI n_188))]) hx hb dX12_give_66 rfl hl (by decide) rfl (fun ls hl => ?_)
            refine lv_aload_n hx hb dX12_give_67 rfl (lv_at hl 2 rfl) ?_
            refine va_get (D := E.1) (ci := 12) (v := .ref (q 55)) (C := RX12) (T := TX12) (N := 59) hx hb hts inX12 hown hK hP 0 rfl rfl 55 (by decide) fl142 (fun _ h9 => h9) rfl dX12_give_68 ?_
            refine lv_iload hx hb dX12_give_71 (lv_at hl 1 rfl) ?_
            refine va_iald hx hb hK hP 2 0 rfl rfl (show vp_in 3 4 from by unfold vp_in; decide) dX12_give_73 ?_
            refine lv_topi (fun x_204 ex_204 => ?_)
            obtain rfl : x_204 = nI w_192 := ex_204.trans ex_190.symm
            refine lv_istore (lv' := [(5, .int (nI w_192)), (3, .int x_203), (4, .int 3), (0, .ref h0), (2, .int (nI n_188))]) hx hb dX12_give_74 hl (by decide) rfl (fun ls hl => ?_)
            have hPl := hP.sub (ws' := [(h0, .inr (12, mG q i_taped i_size i_sort i_what i_at i_end i_worth i_faultKind i_faultPlace i_got i_worked (nI dl) i_isPlanned i_bestDone i_bestCost)), (q 51, .inl (E.2.1 0, 512, .inl a_least)), (q 55, .inl (E.2.1 0, 4, .inl a_sets)), (q 54, .inl (E.2.1 0, 7, .inl a_bestGiven)), (q 53, .inl (E.2.1 0, 7, .inl a_given))]) [0, 1, 2, 3, 4] rfl
            have hDl := hD.sub (ws' := [(h0, .inr (12, mG q i_taped i_size i_sort i_what i_at i_end i_worth i_faultKind i_faultPlace i_got i_worked (nI dl) i_isPlanned i_bestDone i_bestCost)), (q 51, .inl (E.2.1 0, 512, .inl a_least)), (q 55, .inl (E.2.1 0, 4, .inl a_sets)), (q 54, .inl (E.2.1 0, 7, .inl a_bestGiven)), (q 53, .inl (E.2.1 0, 7, .inl a_given))]) [0, 1, 2, 3, 4] (by decide) rfl
            refine lm_bits E h0 q i_taped i_size i_sort i_what i_at i_end i_worth i_faultKind i_faultPlace i_got i_worked i_isPlanned i_bestDone i_bestCost dl (n_188 + pc7 w_192) x_203 3 ([(q 51, .inl (E.2.1 0, 512, .inl a_least)), (q 55, .inl (E.2.1 0, 4, .inl a_sets)), (q 54, .inl (E.2.1 0, 7, .inl a_bestGiven)), (q 53, .inl (E.2.1 0, 7, .inl a_given))]) hx hb hml hown hts hkn hst hA  (fun n_205 H locs ls hm hP hD hS hl => ?_) (w_192 + 1) w_192 n_188 _ _ _ (Nat.lt_succ_self _) (by omega) rfl hPl hDl hS (lv_sub hl [3, 4, 1, 2, 0] rfl)
            have hP : va_P E.1 vwCl [(h0, .inr (12, mG q i_taped i_size i_sort i_what i_at i_end i_worth i_faultKind i_faultPlace i_got i_worked (nI dl) i_isPlanned i_bestDone i_bestCost)), (q 51, .inl (E.2.1 0, 512, .inl a_least)), (q 55, .inl (E.2.1 0, 4, .inl a_sets)), (q 54, .inl (E.2.1 0, 7, .inl a_bestGiven)), (q 53, .inl (E.2.1 0, 7, .inl a_given))] H := hP
            have hD : va_D A [(h0, .inr (12, mG q i_taped i_size i_sort i_what i_at i_end i_worth i_faultKind i_faultPlace i_got i_worked (nI dl) i_isPlanned i_bestDone i_bestCost)), (q 51, .inl (E.2.1 0, 512, .inl a_least)), (q 55, .inl (E.2.1 0, 4, .inl a_sets)), (q 54, .inl (E.2.1 0, 7, .inl a_bestGiven)), (q 53, .inl (E.2.1 0, 7, .inl a_given))] := hD
            have hm3 := hm
            refine lv_iinc (v := 4) (lv' := [(4, .int 4), (0, .ref h0), (2, .int (nI n_205)), (3, .int x_203)]) hx hb dX12_give_96 hl (k := 3) rfl (by decide) (by decide) rfl (fun ls hl => ?_)
            refine lv_goto (tgt := 15) hx hb dX12_give_99 (by decide) ?_
            refine lv_iload hx hb dX12_give_15 (lv_at hl 0 rfl) ?_
            refine lv_iconst (v := 4) hx hb dX12_give_17 (by decide) ?_
            refine lv_icmp_ge (tgt := 102) hx hb dX12_give_18 (by decide) (fun _ => ?_) (fun c9 => absurd c9 (by decide))
            have p70 := pc7_le w_141 (by omega)
            have p71 := pc7_le w_158 (by omega)
            have p72 := pc7_le w_175 (by omega)
            have p73 := pc7_le w_192 (by omega)
            have hcn9 : n_205 = cnt gp dl := by rw [← pc_sum gp dl hdl, ← hw09, ← hw19, ← hw29, ← hw39]; omega
            refine lv_iload_n hx hb dX12_give_102 rfl (lv_at hl 2 rfl) ?_
            refine lv_aload_n hx hb dX12_give_103 rfl (lv_at hl 1 rfl) ?_
            refine va_get (D := E.1) (ci := 12) (v := .int i_bestDone) (C := RX12) (T := TX12) (N := 59) hx hb hts inX12 hown hK hP 0 rfl rfl 57 (by decide) fl300 (fun _ h9 => h9) rfl dX12_give_104 ?_
            refine lv_icmp_lt (tgt := 126) hx hb dX12_give_107 (by decide) (fun c_206 => ?_) (fun c_206 => ?_)
            · have hP9 := hP.sub (ws' := [(h0, .inr (12, mG q i_taped i_size i_sort i_what i_at i_end i_worth i_faultKind i_faultPlace i_got i_worked (nI dl) i_isPlanned i_bestDone i_bestCost)), (q 51, .inl (E.2.1 0, 512, .inl a_least)), (q 55, .inl (E.2.1 0, 4, .inl a_sets)), (q 54, .inl (E.2.1 0, 7, .inl a_bestGiven)), (q 53, .inl (E.2.1 0, 7, .inl a_given))]) [0, 1, 2, 3, 4] rfl
              have hD9 := hD.sub (ws' := [(h0, .inr (12, mG q i_taped i_size i_sort i_what i_at i_end i_worth i_faultKind i_faultPlace i_got i_worked (nI dl) i_isPlanned i_bestDone i_bestCost)), (q 51, .inl (E.2.1 0, 512, .inl a_least)), (q 55, .inl (E.2.1 0, 4, .inl a_sets)), (q 54, .inl (E.2.1 0, 7, .inl a_bestGiven)), (q 53, .inl (E.2.1 0, 7, .inl a_given))]) [0, 1, 2, 3, 4] (by decide) rfl
              exact W.vret hx hb hr (fun t ht hW => ⟨⟨(i_bestDone, i_bestCost, a_sets, a_bestGiven, a_given), rfl, (BG_post hn9 (BG_old hdl hp9 (Or.inl (by rw [← hcn9]; exact gx_lt (by omega) c_206)) hB9)), hI_sets, (fun i hi => rfl), (fun k hk => rfl), by rw [ht]; exact hP9, hD9⟩, hS.F ht⟩) hS.2.2 dX12_give_126
            · refine lv_iload_n hx hb dX12_give_110 rfl (lv_at hl 2 rfl) ?_
              refine lv_aload_n hx hb dX12_give_111 rfl (lv_at hl 1 rfl) ?_
              refine va_get (D := E.1) (ci := 12) (v := .int i_bestDone) (C := RX12) (T := TX12) (N := 59) hx hb hts inX12 hown hK hP 0 rfl rfl 57 (by decide) fl300 (fun _ h9 => h9) rfl dX12_give_112 ?_
              refine lv_icmp_ne (tgt := 127) hx hb dX12_give_115 (by decide) (fun c_207 => ?_) (fun c_207 => ?_)
              · refine lv_aload_n hx hb dX12_give_127 rfl (lv_at hl 1 rfl) ?_
                refine lv_iload_n hx hb dX12_give_128 rfl (lv_at hl 2 rfl) ?_
                refine va_put (D := E.1) (ci := 12) (v := .int (nI n_205)) (ty := .int) (C := RX12) (T := TX12) (N := 59) hx hb hts inX12 tyX12 tyX12_ok nmX12 hown hK hP hD hS 0 rfl rfl 57 (by decide) fl300 (fun _ h9 => h9) rfl (by decide +kernel) rfl rfl (Nat.le_of_ble_eq_true rfl) dX12_give_129 (fun H locs hP hD hS => ?_)
                have hP : va_P E.1 vwCl [(h0, .inr (12, mG q i_taped i_size i_sort i_what i_at i_end i_worth i_faultKind i_faultPlace i_got i_worked (nI dl) i_isPlanned (nI n_205) i_bestCost)), (q 51, .inl (E.2.1 0, 512, .inl a_least)), (q 55, .inl (E.2.1 0, 4, .inl a_sets)), (q 54, .inl (E.2.1 0, 7, .inl a_bestGiven)), (q 53, .inl (E.2.1 0, 7, .inl a_given))] H := hP
                have hD : va_D A [(h0, .inr (12, mG q i_taped i_size i_sort i_what i_at i_end i_worth i_faultKind i_faultPlace i_got i_worked (nI dl) i_isPlanned (nI n_205) i_bestCost)), (q 51, .inl (E.2.1 0, 512, .inl a_least)), (q 55, .inl (E.2.1 0, 4, .inl a_sets)), (q 54, .inl (E.2.1 0, 7, .inl a_bestGiven)), (q 53, .inl (E.2.1 0, 7, .inl a_given))] := hD
                refine lv_aload_n hx hb dX12_give_132 rfl (lv_at hl 1 rfl) ?_
                refine lv_iload_n hx hb dX12_give_133 rfl (lv_at hl 3 rfl) ?_
                refine va_put (D := E.1) (ci := 12) (v := .int x_203) (ty := .int) (C := RX12) (T := TX12) (N := 59) hx hb hts inX12 tyX12 tyX12_ok nmX12 hown hK hP hD hS 0 rfl rfl 58 (by decide) fl303 (fun _ h9 => h9) rfl (by decide +kernel) rfl rfl (Nat.le_of_ble_eq_true rfl) dX12_give_134 (fun H locs hP hD hS => ?_)
                have hP : va_P E.1 vwCl [(h0, .inr (12, mG q i_taped i_size i_sort i_what i_at i_end i_worth i_faultKind i_faultPlace i_got i_worked (nI dl) i_isPlanned (nI n_205) x_203)), (q 51, .inl (E.2.1 0, 512, .inl a_least)), (q 55, .inl (E.2.1 0, 4, .inl a_sets)), (q 54, .inl (E.2.1 0, 7, .inl a_bestGiven)), (q 53, .inl (E.2.1 0, 7, .inl a_given))] H := hP
                have hD : va_D A [(h0, .inr (12, mG q i_taped i_size i_sort i_what i_at i_end i_worth i_faultKind i_faultPlace i_got i_worked (nI dl) i_isPlanned (nI n_205) x_203)), (q 51, .inl (E.2.1 0, 512, .inl a_least)), (q 55, .inl (E.2.1 0, 4, .inl a_sets)), (q 54, .inl (E.2.1 0, 7, .inl a_bestGiven)), (q 53, .inl (E.2.1 0, 7, .inl a_given))] := hD
                refine lv_iconst (v := 0) hx hb dX12_give_137 (by decide) ?_
                refine lv_istore (lv' := [(4, .int 0), (0, .ref h0), (2, .int (nI n_205)), (3, .int x_203)]) hx hb dX12_give_138 hl (by decide) rfl (fun ls hl => ?_)
                have hPl := hP.sub (ws' := [(h0, .inr (12, mG q i_taped i_size i_sort i_what i_at i_end i_worth i_faultKind i_faultPlace i_got i_worked (nI dl) i_isPlanned (nI n_205) x_203)), (q 53, .inl (E.2.1 0, 7, .inl a_given)), (q 54, .inl (E.2.1 0, 7, .inl a_bestGiven)), (q 51, .inl (E.2.1 0, 512, .inl a_least)), (q 55, .inl (E.2.1 0, 4, .inl a_sets))]) [0, 4, 3, 1, 2] rfl
                have hDl := hD.sub (ws' := [(h0, .inr (12, mG q i_taped i_size i_sort i_what i_at i_end i_worth i_faultKind i_faultPlace i_got i_worked (nI dl) i_isPlanned (nI n_205) x_203)), (q 53, .inl (E.2.1 0, 7, .inl a_given)), (q 54, .inl (E.2.1 0, 7, .inl a_bestGiven)), (q 51, .inl (E.2.1 0, 512, .inl a_least)), (q 55, .inl (E.2.1 0, 4, .inl a_sets))]) [0, 4, 3, 1, 2] (by decide) rfl
                refine lm_copy E h0 q i_taped i_size i_sort i_what i_at i_end i_worth i_faultKind i_faultPlace i_got i_worked i_isPlanned (nI n_205) x_203 dl a_given ([(q 51, .inl (E.2.1 0, 512, .inl a_least)), (q 55, .inl (E.2.1 0, 4, .inl a_sets))]) hx hb hml hown hts hkn hst hA (by omega) (fun n_208 H locs ls hcp hP hD hS hl => ?_) 9 0 a_bestGiven _ _ _ (by omega) (by omega) (fun j hj => absurd hj (Nat.not_lt_zero j)) hPl hDl hS (lv_sub hl [1, 0] rfl)
                have hP : va_P E.1 vwCl [(h0, .inr (12, mG q i_taped i_size i_sort i_what i_at i_end i_worth i_faultKind i_faultPlace i_got i_worked (nI dl) i_isPlanned (nI n_205) x_203)), (q 53, .inl (E.2.1 0, 7, .inl a_given)), (q 54, .inl (E.2.1 0, 7, .inl n_208)), (q 51, .inl (E.2.1 0, 512, .inl a_least)), (q 55, .inl (E.2.1 0, 4, .inl a_sets))] H := hP
                have hD : va_D A [(h0, .inr (12, mG q i_taped i_size i_sort i_what i_at i_end i_worth i_faultKind i_faultPlace i_got i_worked (nI dl) i_isPlanned (nI n_205) x_203)), (q 53, .inl (E.2.1 0, 7, .inl a_given)), (q 54, .inl (E.2.1 0, 7, .inl n_208)), (q 51, .inl (E.2.1 0, 512, .inl a_least)), (q 55, .inl (E.2.1 0, 4, .inl a_sets))] := hD
                have hP9 := hP.sub (ws' := [(h0, .inr (12, mG q i_taped i_size i_sort i_what i_at i_end i_worth i_faultKind i_faultPlace i_got i_worked (nI dl) i_isPlanned (nI n_205) x_203)), (q 51, .inl (E.2.1 0, 512, .inl a_least)), (q 55, .inl (E.2.1 0, 4, .inl a_sets)), (q 54, .inl (E.2.1 0, 7, .inl n_208)), (q 53, .inl (E.2.1 0, 7, .inl a_given))]) [0, 3, 4, 2, 1] rfl
                have hD9 := hD.sub (ws' := [(h0, .inr (12, mG q i_taped i_size i_sort i_what i_at i_end i_worth i_faultKind i_faultPlace i_got i_worked (nI dl) i_isPlanned (nI n_205) x_203)), (q 51, .inl (E.2.1 0, 512, .inl a_least)), (q 55, .inl (E.2.1 0, 4, .inl a_sets)), (q 54, .inl (E.2.1 0, 7, .inl n_208)), (q 53, .inl (E.2.1 0, 7, .inl a_given))]) [0, 3, 4, 2, 1] (by decide) rfl
                exact W.vret hx hb hr (fun t ht hW => ⟨⟨(nI n_205, x_203, a_sets, n_208, a_given), rfl, (BG_post hn9 (BG_new hdl hp9 (F4_all hk0 hk1 hk2 hk3) (Or.inl (by rw [← hcn9]; exact gx_gt (by omega) c_206 c_207)) (by rw [← hcn9]) hc39.1 (fun j hj => (hcp j hj).trans (hGv j (by omega))) hB9)), hI_sets, (fun i hi => rfl), (fun k hk => rfl), by rw [ht]; exact hP9, hD9⟩, hS.F ht⟩) hS.2.2 dX12_give_169
              · refine lv_iload_n hx hb dX12_give_118 rfl (lv_at hl 3 rfl) ?_
                refine lv_aload_n hx hb dX12_give_119 rfl (lv_at hl 1 rfl) ?_
                refine va_get (D := E.1) (ci := 12) (v := .int i_bestCost) (C := RX12) (T := TX12) (N := 59) hx hb hts inX12 hown hK hP 0 rfl rfl 58 (by decide) fl303 (fun _ h9 => h9) rfl dX12_give_120 ?_
                refine lv_icmp_lt (tgt := 127) hx hb dX12_give_123 (by decide) (fun c_209 => ?_) (fun c_209 => ?_)
                · refine lv_aload_n hx hb dX12_give_127 rfl (lv_at hl 1 rfl) ?_
                  refine lv_iload_n hx hb dX12_give_128 rfl (lv_at hl 2 rfl) ?_
                  refine va_put (D := E.1) (ci := 12) (v := .int (nI n_205)) (ty := .int) (C := RX12) (T := TX12) (N := 59) hx hb hts inX12 tyX12 tyX12_ok nmX12 hown hK hP hD hS 0 rfl rfl 57 (by decide) fl300 (fun _ h9 => h9) rfl (by decide +kernel) rfl rfl (Nat.le_of_ble_eq_true rfl) dX12_give_129 (fun H locs hP hD hS => ?_)
                  have hP : va_P E.1 vwCl [(h0, .inr (12, mG q i_taped i_size i_sort i_what i_at i_end i_worth i_faultKind i_faultPlace i_got i_worked (nI dl) i_isPlanned (nI n_205) i_bestCost)), (q 51, .inl (E.2.1 0, 512, .inl a_least)), (q 55, .inl (E.2.1 0, 4, .inl a_sets)), (q 54, .inl (E.2.1 0, 7, .inl a_bestGiven)), (q 53, .inl (E.2.1 0, 7, .inl a_given))] H := hP
                  have hD : va_D A [(h0, .inr (12, mG q i_taped i_size i_sort i_what i_at i_end i_worth i_faultKind i_faultPlace i_got i_worked (nI dl) i_isPlanned (nI n_205) i_bestCost)), (q 51, .inl (E.2.1 0, 512, .inl a_least)), (q 55, .inl (E.2.1 0, 4, .inl a_sets)), (q 54, .inl (E.2.1 0, 7, .inl a_bestGiven)), (q 53, .inl (E.2.1 0, 7, .inl a_given))] := hD
                  refine lv_aload_n hx hb dX12_give_132 rfl (lv_at hl 1 rfl) ?_
                  refine lv_iload_n hx hb dX12_give_133 rfl (lv_at hl 3 rfl) ?_
                  refine va_put (D := E.1) (ci := 12) (v := .int x_203) (ty := .int) (C := RX12) (T := TX12) (N := 59) hx hb hts inX12 tyX12 tyX12_ok nmX12 hown hK hP hD hS 0 rfl rfl 58 (by decide) fl303 (fun _ h9 => h9) rfl (by decide +kernel) rfl rfl (Nat.le_of_ble_eq_true rfl) dX12_give_134 (fun H locs hP hD hS => ?_)
                  have hP : va_P E.1 vwCl [(h0, .inr (12, mG q i_taped i_size i_sort i_what i_at i_end i_worth i_faultKind i_faultPlace i_got i_worked (nI dl) i_isPlanned (nI n_205) x_203)), (q 51, .inl (E.2.1 0, 512, .inl a_least)), (q 55, .inl (E.2.1 0, 4, .inl a_sets)), (q 54, .inl (E.2.1 0, 7, .inl a_bestGiven)), (q 53, .inl (E.2.1 0, 7, .inl a_given))] H := hP
                  have hD : va_D A [(h0, .inr (12, mG q i_taped i_size i_sort i_what i_at i_end i_worth i_faultKind i_faultPlace i_got i_worked (nI dl) i_isPlanned (nI n_205) x_203)), (q 51, .inl (E.2.1 0, 512, .inl a_least)), (q 55, .inl (E.2.1 0, 4, .inl a_sets)), (q 54, .inl (E.2.1 0, 7, .inl a_bestGiven)), (q 53, .inl (E.2.1 0, 7, .inl a_given))] := hD
                  refine lv_iconst (v := 0) hx hb dX12_give_137 (by decide) ?_
                  refine lv_istore (lv' := [(4, .int 0), (0, .ref h0), (2, .int (nI n_205)), (3, .int x_203)]) hx hb dX12_give_138 hl (by decide) rfl (fun ls hl => ?_)
                  have hPl := hP.sub (ws' := [(h0, .inr (12, mG q i_taped i_size i_sort i_what i_at i_end i_worth i_faultKind i_faultPlace i_got i_worked (nI dl) i_isPlanned (nI n_205) x_203)), (q 53, .inl (E.2.1 0, 7, .inl a_given)), (q 54, .inl (E.2.1 0, 7, .inl a_bestGiven)), (q 51, .inl (E.2.1 0, 512, .inl a_least)), (q 55, .inl (E.2.1 0, 4, .inl a_sets))]) [0, 4, 3, 1, 2] rfl
                  have hDl := hD.sub (ws' := [(h0, .inr (12, mG q i_taped i_size i_sort i_what i_at i_end i_worth i_faultKind i_faultPlace i_got i_worked (nI dl) i_isPlanned (nI n_205) x_203)), (q 53, .inl (E.2.1 0, 7, .inl a_given)), (q 54, .inl (E.2.1 0, 7, .inl a_bestGiven)), (q 51, .inl (E.2.1 0, 512, .inl a_least)), (q 55, .inl (E.2.1 0, 4, .inl a_sets))]) [0, 4, 3, 1, 2] (by decide) rfl
                  refine lm_copy E h0 q i_taped i_size i_sort i_what i_at i_end i_worth i_faultKind i_faultPlace i_got i_worked i_isPlanned (nI n_205) x_203 dl a_given ([(q 51, .inl (E.2.1 0, 512, .inl a_least)), (q 55, .inl (E.2.1 0, 4, .inl a_sets))]) hx hb hml hown hts hkn hst hA (by omega) (fun n_210 H locs ls hcp hP hD hS hl => ?_) 9 0 a_bestGiven _ _ _ (by omega) (by omega) (fun j hj => absurd hj (Nat.not_lt_zero j)) hPl hDl hS (lv_sub hl [1, 0] rfl)
                  have hP : va_P E.1 vwCl [(h0, .inr (12, mG q i_taped i_size i_sort i_what i_at i_end i_worth i_faultKind i_faultPlace i_got i_worked (nI dl) i_isPlanned (nI n_205) x_203)), (q 53, .inl (E.2.1 0, 7, .inl a_given)), (q 54, .inl (E.2.1 0, 7, .inl n_210)), (q 51, .inl (E.2.1 0, 512, .inl a_least)), (q 55, .inl (E.2.1 0, 4, .inl a_sets))] H := hP
                  have hD : va_D A [(h0, .inr (12, mG q i_taped i_size i_sort i_what i_at i_end i_worth i_faultKind i_faultPlace i_got i_worked (nI dl) i_isPlanned (nI n_205) x_203)), (q 53, .inl (E.2.1 0, 7, .inl a_given)), (q 54, .inl (E.2.1 0, 7, .inl n_210)), (q 51, .inl (E.2.1 0, 512, .inl a_least)), (q 55, .inl (E.2.1 0, 4, .inl a_sets))] := hD
                  have hP9 := hP.sub (ws' := [(h0, .inr (12, mG q i_taped i_size i_sort i_what i_at i_end i_worth i_faultKind i_faultPlace i_got i_worked (nI dl) i_isPlanned (nI n_205) x_203)), (q 51, .inl (E.2.1 0, 512, .inl a_least)), (q 55, .inl (E.2.1 0, 4, .inl a_sets)), (q 54, .inl (E.2.1 0, 7, .inl n_210)), (q 53, .inl (E.2.1 0, 7, .inl a_given))]) [0, 3, 4, 2, 1] rfl
                  have hD9 := hD.sub (ws' := [(h0, .inr (12, mG q i_taped i_size i_sort i_what i_at i_end i_worth i_faultKind i_faultPlace i_got i_worked (nI dl) i_isPlanned (nI n_205) x_203)), (q 51, .inl (E.2.1 0, 512, .inl a_least)), (q 55, .inl (E.2.1 0, 4, .inl a_sets)), (q 54, .inl (E.2.1 0, 7, .inl n_210)), (q 53, .inl (E.2.1 0, 7, .inl a_given))]) [0, 3, 4, 2, 1] (by decide) rfl
                  exact W.vret hx hb hr (fun t ht hW => ⟨⟨(nI n_205, x_203, a_sets, n_210, a_given), rfl, (BG_post hn9 (BG_new hdl hp9 (F4_all hk0 hk1 hk2 hk3) (Or.inr ⟨(by rw [← hcn9]; exact (gx_eq (by omega) c_207).symm), (by rw [← hc39.1]; exact (ii_lt _ _).mp c_209)⟩) (by rw [← hcn9]) hc39.1 (fun j hj => (hcp j hj).trans (hGv j (by omega))) hB9)), hI_sets, (fun i hi => rfl), (fun k hk => rfl), by rw [ht]; exact hP9, hD9⟩, hS.F ht⟩) hS.2.2 dX12_give_169
                · have hP9 := hP.sub (ws' := [(h0, .inr (12, mG q i_taped i_size i_sort i_what i_at i_end i_worth i_faultKind i_faultPlace i_got i_worked (nI dl) i_isPlanned i_bestDone i_bestCost)), (q 51, .inl (E.2.1 0, 512, .inl a_least)), (q 55, .inl (E.2.1 0, 4, .inl a_sets)), (q 54, .inl (E.2.1 0, 7, .inl a_bestGiven)), (q 53, .inl (E.2.1 0, 7, .inl a_given))]) [0, 1, 2, 3, 4] rfl
                  have hD9 := hD.sub (ws' := [(h0, .inr (12, mG q i_taped i_size i_sort i_what i_at i_end i_worth i_faultKind i_faultPlace i_got i_worked (nI dl) i_isPlanned i_bestDone i_bestCost)), (q 51, .inl (E.2.1 0, 512, .inl a_least)), (q 55, .inl (E.2.1 0, 4, .inl a_sets)), (q 54, .inl (E.2.1 0, 7, .inl a_bestGiven)), (q 53, .inl (E.2.1 0, 7, .inl a_given))]) [0, 1, 2, 3, 4] (by decide) rfl
                  exact W.vret hx hb hr (fun t ht hW => ⟨⟨(i_bestDone, i_bestCost, a_sets, a_bestGiven, a_given), rfl, (BG_post hn9 (BG_old hdl hp9 (Or.inr ⟨(by rw [← hcn9]; exact gx_eq (by omega) c_207), (by rw [← hc39.1]; exact gx_le c_209)⟩) hB9)), hI_sets, (fun i hi => rfl), (fun k hk => rfl), by rw [ht]; exact hP9, hD9⟩, hS.F ht⟩) hS.2.2 dX12_give_126
          · have hP9 := hP.sub (ws' := [(h0, .inr (12, mG q i_taped i_size i_sort i_what i_at i_end i_worth i_faultKind i_faultPlace i_got i_worked (nI dl) i_isPlanned i_bestDone i_bestCost)), (q 51, .inl (E.2.1 0, 512, .inl a_least)), (q 55, .inl (E.2.1 0, 4, .inl a_sets)), (q 54, .inl (E.2.1 0, 7, .inl a_bestGiven)), (q 53, .inl (E.2.1 0, 7, .inl a_given))]) [0, 1, 2, 3, 4] rfl
            have hD9 := hD.sub (ws' := [(h0, .inr (12, mG q i_taped i_size i_sort i_what i_at i_end i_worth i_faultKind i_faultPlace i_got i_worked (nI dl) i_isPlanned i_bestDone i_bestCost)), (q 51, .inl (E.2.1 0, 512, .inl a_least)), (q 55, .inl (E.2.1 0, 4, .inl a_sets)), (q 54, .inl (E.2.1 0, 7, .inl a_bestGiven)), (q 53, .inl (E.2.1 0, 7, .inl a_given))]) [0, 1, 2, 3, 4] (by decide) rfl
            exact W.vret hx hb hr (fun t ht hW => ⟨⟨(i_bestDone, i_bestCost, a_sets, a_bestGiven, a_given), rfl, (BG_post hn9 (BG_inf hp9 (c := 3) (by decide) (fun q9 => absurd ((hKm 3 (by decide) w_192 (by omega)).1.mpr (by rw [hw39]; exact q9)) (fun r9 => r9 (by rw [← nI_clamp (n := 128 * 3 + w_192) (by omega)]; exact ex_197.symm.trans c_198))) hB9)), hI_sets, (fun i hi => rfl), (fun k hk => rfl), by rw [ht]; exact hP9, hD9⟩, hS.F ht⟩) hS.2.2 dX12_give_44
        · have hP9 := hP.sub (ws' := [(h0, .inr (12, mG q i_taped i_size i_sort i_what i_at i_end i_worth i_faultKind i_faultPlace i_got i_worked (nI dl) i_isPlanned i_bestDone i_bestCost)), (q 51, .inl (E.2.1 0, 512, .inl a_least)), (q 55, .inl (E.2.1 0, 4, .inl a_sets)), (q 54, .inl (E.2.1 0, 7, .inl a_bestGiven)), (q 53, .inl (E.2.1 0, 7, .inl a_given))]) [0, 1, 2, 3, 4] rfl
          have hD9 := hD.sub (ws' := [(h0, .inr (12, mG q i_taped i_size i_sort i_what i_at i_end i_worth i_faultKind i_faultPlace i_got i_worked (nI dl) i_isPlanned i_bestDone i_bestCost)), (q 51, .inl (E.2.1 0, 512, .inl a_least)), (q 55, .inl (E.2.1 0, 4, .inl a_sets)), (q 54, .inl (E.2.1 0, 7, .inl a_bestGiven)), (q 53, .inl (E.2.1 0, 7, .inl a_given))]) [0, 1, 2, 3, 4] (by decide) rfl
          exact W.vret hx hb hr (fun t ht hW => ⟨⟨(i_bestDone, i_bestCost, a_sets, a_bestGiven, a_given), rfl, (BG_post hn9 (BG_inf hp9 (c := 2) (by decide) (fun q9 => absurd ((hKm 2 (by decide) w_175 (by omega)).1.mpr (by rw [hw29]; exact q9)) (fun r9 => r9 (by rw [← nI_clamp (n := 128 * 2 + w_175) (by omega)]; exact ex_180.symm.trans c_181))) hB9)), hI_sets, (fun i hi => rfl), (fun k hk => rfl), by rw [ht]; exact hP9, hD9⟩, hS.F ht⟩) hS.2.2 dX12_give_44
      · have hP9 := hP.sub (ws' := [(h0, .inr (12, mG q i_taped i_size i_sort i_what i_at i_end i_worth i_faultKind i_faultPlace i_got i_worked (nI dl) i_isPlanned i_bestDone i_bestCost)), (q 51, .inl (E.2.1 0, 512, .inl a_least)), (q 55, .inl (E.2.1 0, 4, .inl a_sets)), (q 54, .inl (E.2.1 0, 7, .inl a_bestGiven)), (q 53, .inl (E.2.1 0, 7, .inl a_given))]) [0, 1, 2, 3, 4] rfl
        have hD9 := hD.sub (ws' := [(h0, .inr (12, mG q i_taped i_size i_sort i_what i_at i_end i_worth i_faultKind i_faultPlace i_got i_worked (nI dl) i_isPlanned i_bestDone i_bestCost)), (q 51, .inl (E.2.1 0, 512, .inl a_least)), (q 55, .inl (E.2.1 0, 4, .inl a_sets)), (q 54, .inl (E.2.1 0, 7, .inl a_bestGiven)), (q 53, .inl (E.2.1 0, 7, .inl a_given))]) [0, 1, 2, 3, 4] (by decide) rfl
        exact W.vret hx hb hr (fun t ht hW => ⟨⟨(i_bestDone, i_bestCost, a_sets, a_bestGiven, a_given), rfl, (BG_post hn9 (BG_inf hp9 (c := 1) (by decide) (fun q9 => absurd ((hKm 1 (by decide) w_158 (by omega)).1.mpr (by rw [hw19]; exact q9)) (fun r9 => r9 (by rw [← nI_clamp (n := 128 * 1 + w_158) (by omega)]; exact ex_163.symm.trans c_164))) hB9)), hI_sets, (fun i hi => rfl), (fun k hk => rfl), by rw [ht]; exact hP9, hD9⟩, hS.F ht⟩) hS.2.2 dX12_give_44
    · have hP9 := hP.sub (ws' := [(h0, .inr (12, mG q i_taped i_size i_sort i_what i_at i_end i_worth i_faultKind i_faultPlace i_got i_worked (nI dl) i_isPlanned i_bestDone i_bestCost)), (q 51, .inl (E.2.1 0, 512, .inl a_least)), (q 55, .inl (E.2.1 0, 4, .inl a_sets)), (q 54, .inl (E.2.1 0, 7, .inl a_bestGiven)), (q 53, .inl (E.2.1 0, 7, .inl a_given))]) [0, 1, 2, 3, 4] rfl
      have hD9 := hD.sub (ws' := [(h0, .inr (12, mG q i_taped i_size i_sort i_what i_at i_end i_worth i_faultKind i_faultPlace i_got i_worked (nI dl) i_isPlanned i_bestDone i_bestCost)), (q 51, .inl (E.2.1 0, 512, .inl a_least)), (q 55, .inl (E.2.1 0, 4, .inl a_sets)), (q 54, .inl (E.2.1 0, 7, .inl a_bestGiven)), (q 53, .inl (E.2.1 0, 7, .inl a_given))]) [0, 1, 2, 3, 4] (by decide) rfl
      exact W.vret hx hb hr (fun t ht hW => ⟨⟨(i_bestDone, i_bestCost, a_sets, a_bestGiven, a_given), rfl, (BG_post hn9 (BG_inf hp9 (c := 0) (by decide) (fun q9 => absurd ((hKm 0 (by decide) w_141 (by omega)).1.mpr (by rw [hw09]; exact q9)) (fun r9 => r9 (by rw [← nI_clamp (n := 128 * 0 + w_141) (by omega)]; exact ex_146.symm.trans c_147))) hB9)), hI_sets, (fun i hi => rfl), (fun k hk => rfl), by rw [ht]; exact hP9, hD9⟩, hS.F ht⟩) hS.2.2 dX12_give_44
set_option maxHeartbeats 4000000 in
set_option maxRecDepth 100000 in
theorem c_X12_give3 (l : Launch) (E : vE) (h0 : Nat) (q : Nat → Nat) (i_taped : Int32) (i_size : Int32) (i_sort : Int32) (i_what : Int32) (i_at : Int32) (i_end : Int32) (i_worth : Int32) (i_faultKind : Int32) (i_faultPlace : Int32) (i_got : Int32) (i_worked : Int32) (i_isPlanned : Int32) (i_bestDone : Int32) (i_bestCost : Int32) (dl : Nat) (FF : Nat → Nat → Prop) (CC : Nat → Nat → Int) (gp : Nat → Nat) (a_least : Nat → Int32) (a_sets : Nat → Int32) (a_bestGiven : Nat → Int32) (a_given : Nat → Int32) (sz : Nat) (hdl : dl ≤ 7) (hd : 3 ≤ dl) (hp : ∀ k : Nat, k < 3 → gp k ≤ 4) (hSt : ∀ i : Nat, i < 4 → a_sets i = nI (setOf gp i 3)) (hGv : ∀ k : Nat, k < 3 → a_given k = gI (gp k)) (hBG : BG FF CC dl (hN gp 3 * 5 ^ (dl - 3)) i_bestDone i_bestCost a_bestGiven) (hKm : ∀ i : Nat, i < 4 → ∀ z : Nat, z < 128 → ((¬ a_least (128 * i + z) = -1) ↔ FF i z) ∧ ((¬ a_least (128 * i + z) = -1) → (a_least (128 * i + z)).toInt = CC i z)) (hCb : ∀ i : Nat, i < 4 → ∀ z : Nat, FF i z → 0 ≤ CC i z ∧ CC i z ≤ 70000) (hI_sets : ∀ k : Nat, k < 4 → inR (a_sets k) 0 127 = true) : Met l yX12_give wsX12_give ({ frames := 4, cells := 0, slots := 0, locals := 100 }) (pcW E [.ref h0, .int 3] sz [(h0, .inr (12, mG q i_taped i_size i_sort i_what i_at i_end i_worth i_faultKind i_faultPlace i_got i_worked (nI dl) i_isPlanned i_bestDone i_bestCost)), (q 51, .inl (E.2.1 0, 512, .inl a_least)), (q 55, .inl (E.2.1 0, 4, .inl a_sets)), (q 54, .inl (E.2.1 0, 7, .inl a_bestGiven)), (q 53, .inl (E.2.1 0, 7, .inl a_given))]) (va_Qv (fun (u : Int32 × Int32 × (Nat → Int32) × (Nat → Int32) × (Nat → Int32)) => match u with | (bd2, bc2, b_sets, b_bestGiven, b_given) => BG FF CC dl ((hN gp 3 + 1) * 5 ^ (dl - 3)) bd2 bc2 b_bestGiven) (fun (u : Int32 × Int32 × (Nat → Int32) × (Nat → Int32) × (Nat → Int32)) (t : State) => match u with | (bd2, bc2, b_sets, b_bestGiven, b_given) => (∀ k : Nat, k < 4 → inR (b_sets k) 0 127 = true) ∧ (∀ i : Nat, i < 4 → b_sets i = a_sets i) ∧ (∀ k : Nat, k < 3 → b_given k = a_given k) ∧ wB E (va_A [(h0, .inr (12, mG q i_taped i_size i_sort i_what i_at i_end i_worth i_faultKind i_faultPlace i_got i_worked (nI dl) i_isPlanned i_bestDone i_bestCost)), (q 51, .inl (E.2.1 0, 512, .inl a_least)), (q 55, .inl (E.2.1 0, 4, .inl a_sets)), (q 54, .inl (E.2.1 0, 7, .inl a_bestGiven)), (q 53, .inl (E.2.1 0, 7, .inl a_given))] sz) [(h0, .inr (12, mG q i_taped i_size i_sort i_what i_at i_end i_worth i_faultKind i_faultPlace i_got i_worked (nI dl) i_isPlanned bd2 bc2)), (q 51, .inl (E.2.1 0, 512, .inl a_least)), (q 55, .inl (E.2.1 0, 4, .inl b_sets)), (q 54, .inl (E.2.1 0, 7, .inl b_bestGiven)), (q 53, .inl (E.2.1 0, 7, .inl b_given))] t) (va_A [(h0, .inr (12, mG q i_taped i_size i_sort i_what i_at i_end i_worth i_faultKind i_faultPlace i_got i_worked (nI dl) i_isPlanned i_bestDone i_bestCost)), (q 51, .inl (E.2.1 0, 512, .inl a_least)), (q 55, .inl (E.2.1 0, 4, .inl a_sets)), (q 54, .inl (E.2.1 0, 7, .inl a_bestGiven)), (q 53, .inl (E.2.1 0, 7, .inl a_given))] sz)) 0 0 (va_A [(h0, .inr (12, mG q i_taped i_size i_sort i_what i_at i_end i_worth i_faultKind i_faultPlace i_got i_worked (nI dl) i_isPlanned i_bestDone i_bestCost)), (q 51, .inl (E.2.1 0, 512, .inl a_least)), (q 55, .inl (E.2.1 0, 4, .inl a_sets)), (q 54, .inl (E.2.1 0, 7, .inl a_bestGiven)), (q 53, .inl (E.2.1 0, 7, .inl a_given))] sz) := by
  refine Met.ofW (cc := cX12_give) (maxL := 6) (ret := none) (by decide) rfl ?_
  intro p e s m args below meth c s₁ B hml hv
  obtain ⟨rfl, hsz, hP, hkn, hD0, hst⟩ := hv
  have hx := B.exec
  have hb := B.bytes
  have hr := B.returns
  have hts := atoms_spec (ws := wsX12_give) B.pre
  have hown : s.vm.findClass RX12 = some m.cls := findClass_of_methodNamed B.named
  have hlocks := B.notSynchronized
  subst hsz
  have hD := hD0.self (sz := s.heap.size)
  have hK := hkn.1
  have hAO := hkn.2.2.1
  generalize hAe : va_A [(h0, .inr (12, mG q i_taped i_size i_sort i_what i_at i_end i_worth i_faultKind i_faultPlace i_got i_worked (nI dl) i_isPlanned i_bestDone i_bestCost)), (q 51, .inl (E.2.1 0, 512, .inl a_least)), (q 55, .inl (E.2.1 0, 4, .inl a_sets)), (q 54, .inl (E.2.1 0, 7, .inl a_bestGiven)), (q 53, .inl (E.2.1 0, 7, .inl a_given))] s.heap.size = A at hD hst ⊢
  have hA : ∀ q : Nat, s.heap.size ≤ q → A q := fun q h => by rw [← hAe]; exact Or.inr h
  have hS : va_S A s.heap s.heap [] := va_S.rf
  have hP : va_P E.1 vwCl [(h0, .inr (12, mG q i_taped i_size i_sort i_what i_at i_end i_worth i_faultKind i_faultPlace i_got i_worked (nI dl) i_isPlanned i_bestDone i_bestCost)), (q 51, .inl (E.2.1 0, 512, .inl a_least)), (q 55, .inl (E.2.1 0, 4, .inl a_sets)), (q 54, .inl (E.2.1 0, 7, .inl a_bestGiven)), (q 53, .inl (E.2.1 0, 7, .inl a_given))] s.heap := hP
  have hl := lv_entry ([.ref h0, .int 3]) (n := 6) (Nat.le_of_ble_eq_true rfl)
  rw [lg_entry_eq]
  generalize (lg_sl ([.ref h0, .int 3]) ++ List.replicate (6 - (lg_sl ([.ref h0, .int 3])).length) Slot.unset).toArray = ls at hl ⊢
  have hl : lv_has ls 6 [(0, .ref h0), (1, .int 3)] := hl
  have fl130 := hts (.fieldLink RX12 130 "BoatsHomeModel" "least" "[I") (by first | exact List.mem_of_getElem? (i := 2) rfl | decide +kernel)
  have fl136 := hts (.fieldLink RX12 136 "BoatsHomeModel" "given" "[I") (by first | exact List.mem_of_getElem? (i := 7) rfl | decide +kernel)
  have fl139 := hts (.fieldLink RX12 139 "BoatsHomeModel" "bestGiven" "[I") (by first | exact List.mem_of_getElem? (i := 6) rfl | decide +kernel)
  have fl142 := hts (.fieldLink RX12 142 "BoatsHomeModel" "sets" "[I") (by first | exact List.mem_of_getElem? (i := 3) rfl | decide +kernel)
  have fl289 := hts (.fieldLink RX12 289 "BoatsHomeModel" "deliveries" "I") (by first | exact List.mem_of_getElem? (i := 1) rfl | decide +kernel)
  have fl300 := hts (.fieldLink RX12 300 "BoatsHomeModel" "bestDone" "I") (by first | exact List.mem_of_getElem? (i := 4) rfl | decide +kernel)
  have fl303 := hts (.fieldLink RX12 303 "BoatsHomeModel" "bestCost" "I") (by first | exact List.mem_of_getElem? (i := 5) rfl | decide +kernel)
  have inX12 : ∀ w ∈ u_ws RX12 TX12 59, w ∈ wsX12_give := by first | exact fun w h9 => (List.mem_cons_of_mem _ (List.mem_append_right _ h9)) | decide +kernel
  refine lv_iload_n hx hb dX12_give_0 rfl (lv_at hl 1 rfl) ?_
  refine lv_aload_n hx hb dX12_give_1 rfl (lv_at hl 0 rfl) ?_
  refine va_get (D := E.1) (ci := 12) (v := .int (nI dl)) (C := RX12) (T := TX12) (N := 59) hx hb hts inX12 hown hK hP 0 rfl rfl 41 (by decide) fl289 (fun _ h9 => h9) rfl dX12_give_2 ?_
  refine lv_icmp_ne (tgt := 170) hx hb dX12_give_5 (by decide) (fun c_1 => ?_) (fun c_1 => ?_)
  · have hd2 : 3 + 1 ≤ dl := by
      rcases Nat.lt_or_ge 3 dl with q | q
      · exact q
      · exact absurd (by rw [show dl = 3 by omega]; rfl) c_1
    refine lv_iconst (v := 0) hx hb dX12_give_170 (by decide) ?_
    refine lv_istore_n (lv' := [(2, .int 0), (0, .ref h0), (1, .int 3)]) hx hb dX12_give_171 rfl hl (by decide) rfl (fun ls hl => ?_)
    refine lv_iload_n hx hb dX12_give_172 rfl (lv_at hl 0 rfl) ?_
    refine lv_iconst (v := 4) hx hb dX12_give_173 (by decide) ?_
    refine lv_icmp_ge (tgt := 223) hx hb dX12_give_174 (by decide) (fun c9 => absurd c9 (by decide)) (fun _ => ?_)
    refine lv_aload_n hx hb dX12_give_177 rfl (lv_at hl 1 rfl) ?_
    refine va_get (D := E.1) (ci := 12) (v := .ref (q 53)) (C := RX12) (T := TX12) (N := 59) hx hb hts inX12 hown hK hP 0 rfl rfl 53 (by decide) fl136 (fun _ h9 => h9) rfl dX12_give_178 ?_
    refine lv_iload_n hx hb dX12_give_181 rfl (lv_at hl 2 rfl) ?_
    refine lv_iload_n hx hb dX12_give_182 rfl (lv_at hl 0 rfl) ?_
    refine va_iast hx hb hK hP hD hS 4 0 rfl rfl (show vp_in 3 7 from by unfold vp_in; decide) dX12_give_183 (fun H locs hP hD hS => ?_)
    have hP : va_P E.1 vwCl [(h0, .inr (12, mG q i_taped i_size i_sort i_what i_at i_end i_worth i_faultKind i_faultPlace i_got i_worked (nI dl) i_isPlanned i_bestDone i_bestCost)), (q 51, .inl (E.2.1 0, 512, .inl a_least)), (q 55, .inl (E.2.1 0, 4, .inl a_sets)), (q 54, .inl (E.2.1 0, 7, .inl a_bestGiven)), (q 53, .inl (E.2.1 0, 7, .inl (upd a_given (Int32.toNatClampNeg 3) 0)))] H := hP
    have hD : va_D A [(h0, .inr (12, mG q i_taped i_size i_sort i_what i_at i_end i_worth i_faultKind i_faultPlace i_got i_worked (nI dl) i_isPlanned i_bestDone i_bestCost)), (q 51, .inl (E.2.1 0, 512, .inl a_least)), (q 55, .inl (E.2.1 0, 4, .inl a_sets)), (q 54, .inl (E.2.1 0, 7, .inl a_bestGiven)), (q 53, .inl (E.2.1 0, 7, .inl (upd a_given (Int32.toNatClampNeg 3) 0)))] := hD
    obtain ⟨f_2, ef_2⟩ : ∃ g : Nat → Int32, g = upd a_given (Int32.toNatClampNeg 3) 0 := ⟨_, rfl⟩
    rw [← ef_2] at hP hD
    refine lv_aload_n hx hb dX12_give_184 rfl (lv_at hl 1 rfl) ?_
    refine va_get (D := E.1) (ci := 12) (v := .ref (q 55)) (C := RX12) (T := TX12) (N := 59) hx hb hts inX12 hown hK hP 0 rfl rfl 55 (by decide) fl142 (fun _ h9 => h9) rfl dX12_give_185 ?_
    refine lv_iload_n hx hb dX12_give_188 rfl (lv_at hl 0 rfl) ?_
    refine lv_dup2_11 hx hb dX12_give_189 rfl rfl ?_
    refine va_iald hx hb hK hP 2 0 rfl rfl (show vp_in 0 4 from by unfold vp_in; decide) dX12_give_190 ?_
    refine lv_topi (fun x_3 ex_3 => ?_)
    have hv_4 : inR x_3 0 127 = true := by rw [ex_3]; exact hI_sets _ (vin_cl (show vp_in 0 4 from by unfold vp_in; decide))
    obtain ⟨w_5, hw_6, ew_7⟩ := inR_nI (n := 127) (by decide) hv_4
    subst ew_7
    refine lv_iconst (v := 1) hx hb dX12_give_191 (by decide) ?_
    refine lv_iload_n hx hb dX12_give_192 rfl (lv_at hl 2 rfl) ?_
    refine lv_ishl hx hb dX12_give_193 ?_
    refine lv_topi (fun x_8 ex_8 => ?_)
    obtain rfl : x_8 = 8 := ex_8.trans (by decide +kernel)
    refine lv_ior hx hb dX12_give_194 ?_
    refine lv_topi (fun x_9 ex_9 => ?_)
    refine va_iast hx hb hK hP hD hS 2 0 rfl rfl (show vp_in 0 4 from by unfold vp_in; decide) dX12_give_195 (fun H locs hP hD hS => ?_)
    have hP : va_P E.1 vwCl [(h0, .inr (12, mG q i_taped i_size i_sort i_what i_at i_end i_worth i_faultKind i_faultPlace i_got i_worked (nI dl) i_isPlanned i_bestDone i_bestCost)), (q 51, .inl (E.2.1 0, 512, .inl a_least)), (q 55, .inl (E.2.1 0, 4, .inl (upd a_sets (Int32.toNatClampNeg 0) x_9))), (q 54, .inl (E.2.1 0, 7, .inl a_bestGiven)), (q 53, .inl (E.2.1 0, 7, .inl f_2))] H := hP
    have hD : va_D A [(h0, .inr (12, mG q i_taped i_size i_sort i_what i_at i_end i_worth i_faultKind i_faultPlace i_got i_worked (nI dl) i_isPlanned i_bestDone i_bestCost)), (q 51, .inl (E.2.1 0, 512, .inl a_least)), (q 55, .inl (E.2.1 0, 4, .inl (upd a_sets (Int32.toNatClampNeg 0) x_9))), (q 54, .inl (E.2.1 0, 7, .inl a_bestGiven)), (q 53, .inl (E.2.1 0, 7, .inl f_2))] := hD
    obtain ⟨f_10, ef_10⟩ : ∃ g : Nat → Int32, g = upd a_sets (Int32.toNatClampNeg 0) x_9 := ⟨_, rfl⟩
    rw [← ef_10] at hP hD
    have hI_11 : ∀ k : Nat, k < 4 → inR (f_10 k) 0 127 = true := by rw [ef_10]; exact all_upd (P := fun z => inR z 0 127 = true) hI_sets (by rw [ex_9]; exact or_lt7 _ (by omega) 3 (by decide))
    refine lv_aload_n hx hb dX12_give_196 rfl (lv_at hl 1 rfl) ?_
    refine lv_iload_n hx hb dX12_give_197 rfl (lv_at hl 2 rfl) ?_
    refine lv_iconst (v := 1) hx hb dX12_give_198 (by decide) ?_
    refine lv_iadd hx hb dX12_give_199 ?_
    refine lv_topi (fun x_12 ex_12 => ?_)
    obtain rfl : x_12 = 4 := ex_12.trans (by decide +kernel)
    have hp0 : ∀ i : Nat, i < 4 → f_10 i = put a_sets 0 3 i := put_of (prev := a_sets) (x := x_9) (y := nI w_5) (z := 8) (fun i hi => rfl) (by decide) (ef_10.trans (by rw [show Int32.toNatClampNeg 0 = 0 from by decide])) ex_9 (ex_3.trans (by rw [show Int32.toNatClampNeg 0 = 0 from by decide])) (by decide)
    have hv0 : ∀ k : Nat, k < 3 + 1 → f_2 k = gI (pg gp 3 0 k) := gv_put (cur := a_given) (fun k hk => rfl) hGv (ef_2.trans (by rw [show Int32.toNatClampNeg 3 = 3 from by decide])) (by decide)
    have hPc := hP.sub (ws' := [(h0, .inr (12, mG q i_taped i_size i_sort i_what i_at i_end i_worth i_faultKind i_faultPlace i_got i_worked (nI dl) i_isPlanned i_bestDone i_bestCost)), (q 51, .inl (E.2.1 0, 512, .inl a_least)), (q 55, .inl (E.2.1 0, 4, .inl f_10)), (q 54, .inl (E.2.1 0, 7, .inl a_bestGiven)), (q 53, .inl (E.2.1 0, 7, .inl f_2))]) [0, 1, 2, 3, 4] rfl
    have hDc := hD.sub (ws' := [(h0, .inr (12, mG q i_taped i_size i_sort i_what i_at i_end i_worth i_faultKind i_faultPlace i_got i_worked (nI dl) i_isPlanned i_bestDone i_bestCost)), (q 51, .inl (E.2.1 0, 512, .inl a_least)), (q 55, .inl (E.2.1 0, 4, .inl f_10)), (q 54, .inl (E.2.1 0, 7, .inl a_bestGiven)), (q 53, .inl (E.2.1 0, 7, .inl f_2))]) [0, 1, 2, 3, 4] (by decide) rfl
    have hFc := va_free (wc := [(h0, .inr (12, mG q i_taped i_size i_sort i_what i_at i_end i_worth i_faultKind i_faultPlace i_got i_worked (nI dl) i_isPlanned i_bestDone i_bestCost)), (q 51, .inl (E.2.1 0, 512, .inl a_least)), (q 55, .inl (E.2.1 0, 4, .inl f_10)), (q 54, .inl (E.2.1 0, 7, .inl a_bestGiven)), (q 53, .inl (E.2.1 0, 7, .inl f_2))]) hD hS hA [0, 1, 2, 3, 4] rfl
    refine va_callv (va_runV (As := [.int 4]) (rest := []) ⟨hx, hb, hml, hown, hts⟩ (c_X12_give4 l E h0 q i_taped i_size i_sort i_what i_at i_end i_worth i_faultKind i_faultPlace i_got i_worked i_isPlanned i_bestDone i_bestCost dl FF CC (pg gp 3 0) a_least f_10 a_bestGiven f_2 H.size hdl hd2 (pg_le hp (by decide)) (st_put hSt hp0) hv0 (BG_M (M_0 hd2) hBG) hKm hCb hI_11) (cwV 1 hts gX12_give_X12_give rfl rfl rfl hdV_X12_give ⟨Nat.le_of_ble_eq_true rfl, Nat.le_of_ble_eq_true rfl⟩) ⟨pcW_blind, va_recv hK hPc (ci := 12) (q0 := 0) rfl rfl, (pcW_pre hPc hkn hDc hst hS hFc)⟩ rfl rfl hl.1 rfl (lv_room (Nat.le_of_ble_eq_true rfl)) dX12_give_200 ⟨Nat.le_of_ble_eq_true rfl, Nat.le_of_ble_eq_true rfl⟩) hS (fun q _ h => hFc q h) hFc (fun u t H1 locs ht hvm hw_14 hB hz1 hk1 hS => ?_)
    obtain ⟨u_15, u_16, u_17, u_18, u_19⟩ := u
    obtain ⟨hf_20, hf_21, hf_22, hP1, hD1⟩ := hB
    rw [ht] at hP1
    try dsimp only at hw_14
    obtain ⟨hP, hD⟩ := va_join (wr := []) (w1 := [(h0, .inr (12, mG q i_taped i_size i_sort i_what i_at i_end i_worth i_faultKind i_faultPlace i_got i_worked (nI dl) i_isPlanned u_15 u_16)), (q 51, .inl (E.2.1 0, 512, .inl a_least)), (q 55, .inl (E.2.1 0, 4, .inl u_17)), (q 54, .inl (E.2.1 0, 7, .inl u_18)), (q 53, .inl (E.2.1 0, 7, .inl u_19))]) hP hD [0, 1, 2, 3, 4] [] rfl rfl (by decide) (by decide) hk1 hFc hP1 hD1
    generalize H1 = H at hP hS ⊢
    have hP : va_P E.1 vwCl [(h0, .inr (12, mG q i_taped i_size i_sort i_what i_at i_end i_worth i_faultKind i_faultPlace i_got i_worked (nI dl) i_isPlanned u_15 u_16)), (q 51, .inl (E.2.1 0, 512, .inl a_least)), (q 55, .inl (E.2.1 0, 4, .inl u_17)), (q 54, .inl (E.2.1 0, 7, .inl u_18)), (q 53, .inl (E.2.1 0, 7, .inl u_19))] H := hP
    have hD : va_D A [(h0, .inr (12, mG q i_taped i_size i_sort i_what i_at i_end i_worth i_faultKind i_faultPlace i_got i_worked (nI dl) i_isPlanned u_15 u_16)), (q 51, .inl (E.2.1 0, 512, .inl a_least)), (q 55, .inl (E.2.1 0, 4, .inl u_17)), (q 54, .inl (E.2.1 0, 7, .inl u_18)), (q 53, .inl (E.2.1 0, 7, .inl u_19))] := hD
    refine lv_aload_n hx hb dX12_give_203 rfl (lv_at hl 1 rfl) ?_
    refine va_get (D := E.1) (ci := 12) (v := .ref (q 55)) (C := RX12) (T := TX12) (N := 59) hx hb hts inX12 hown hK hP 0 rfl rfl 55 (by decide) fl142 (fun _ h9 => h9) rfl dX12_give_204 ?_
    refine lv_iload_n hx hb dX12_give_207 rfl (lv_at hl 0 rfl) ?_
    refine lv_dup2_11 hx hb dX12_give_208 rfl rfl ?_
    refine va_iald hx hb hK hP 2 0 rfl rfl (show vp_in 0 4 from by unfold vp_in; decide) dX12_give_209 ?_
    refine lv_topi (fun x_23 ex_23 => ?_)
    have hv_24 : inR x_23 0 127 = true := by rw [ex_23]; exact hf_20 _ (vin_cl (show vp_in 0 4 from by unfold vp_in; decide))
    obtain ⟨w_25, hw_26, ew_27⟩ := inR_nI (n := 127) (by decide) hv_24
    subst ew_27
    refine lv_iconst (v := 1) hx hb dX12_give_210 (by decide) ?_
    refine lv_iload_n hx hb dX12_give_211 rfl (lv_at hl 2 rfl) ?_
    refine lv_ishl hx hb dX12_give_212 ?_
    refine lv_topi (fun x_28 ex_28 => ?_)
    obtain rfl : x_28 = 8 := ex_28.trans (by decide +kernel)
    refine lv_iconst (v := (-1)) hx hb dX12_give_213 (by decide) ?_
    refine lv_ixor hx hb dX12_give_214 ?_
    refine lv_topi (fun x_29 ex_29 => ?_)
    obtain rfl : x_29 = (-9) := ex_29.trans (by decide +kernel)
    refine lv_iand hx hb dX12_give_215 ?_
    refine lv_topi (fun x_30 ex_30 => ?_)
    refine va_iast hx hb hK hP hD hS 2 0 rfl rfl (show vp_in 0 4 from by unfold vp_in; decide) dX12_give_216 (fun H locs hP hD hS => ?_)
    have hP : va_P E.1 vwCl [(h0, .inr (12, mG q i_taped i_size i_sort i_what i_at i_end i_worth i_faultKind i_faultPlace i_got i_worked (nI dl) i_isPlanned u_15 u_16)), (q 51, .inl (E.2.1 0, 512, .inl a_least)), (q 55, .inl (E.2.1 0, 4, .inl (upd u_17 (Int32.toNatClampNeg 0) x_30))), (q 54, .inl (E.2.1 0, 7, .inl u_18)), (q 53, .inl (E.2.1 0, 7, .inl u_19))] H := hP
    have hD : va_D A [(h0, .inr (12, mG q i_taped i_size i_sort i_what i_at i_end i_worth i_faultKind i_faultPlace i_got i_worked (nI dl) i_isPlanned u_15 u_16)), (q 51, .inl (E.2.1 0, 512, .inl a_least)), (q 55, .inl (E.2.1 0, 4, .inl (upd u_17 (Int32.toNatClampNeg 0) x_30))), (q 54, .inl (E.2.1 0, 7, .inl u_18)), (q 53, .inl (E.2.1 0, 7, .inl u_19))] := hD
    obtain ⟨f_31, ef_31⟩ : ∃ g : Nat → Int32, g = upd u_17 (Int32.toNatClampNeg 0) x_30 := ⟨_, rfl⟩
    rw [← ef_31] at hP hD
    have hI_32 : ∀ k : Nat, k < 4 → inR (f_31 k) 0 127 = true := by rw [ef_31]; exact all_upd (P := fun z => inR z 0 127 = true) hf_20 (by rw [ex_30]; exact and_lt7 _ (by omega) 3 (by decide))
    have hb0 : ∀ i : Nat, i < 4 → f_31 i = a_sets i := gback_of (u := u_17) (x := x_30) (y := nI w_25) (z := (-9)) (by decide) (by decide) ⟨gp, hSt⟩ hp0 hf_21 (ef_31.trans (by rw [show Int32.toNatClampNeg 0 = 0 from by decide])) ex_30 (ex_23.trans (by rw [show Int32.toNatClampNeg 0 = 0 from by decide])) (by decide)
    refine lv_iinc (v := 1) (lv' := [(2, .int 1), (0, .ref h0), (1, .int 3)]) hx hb dX12_give_217 hl (k := 0) rfl (by decide) (by decide) rfl (fun ls hl => ?_)
    refine lv_goto (tgt := 172) hx hb dX12_give_220 (by decide) ?_
    refine lv_iload_n hx hb dX12_give_172 rfl (lv_at hl 0 rfl) ?_
    refine lv_iconst (v := 4) hx hb dX12_give_173 (by decide) ?_
    refine lv_icmp_ge (tgt := 223) hx hb dX12_give_174 (by decide) (fun c9 => absurd c9 (by decide)) (fun _ => ?_)
    refine lv_aload_n hx hb dX12_give_177 rfl (lv_at hl 1 rfl) ?_
    refine va_get (D := E.1) (ci := 12) (v := .ref (q 53)) (C := RX12) (T := TX12) (N := 59) hx hb hts inX12 hown hK hP 0 rfl rfl 53 (by decide) fl136 (fun _ h9 => h9) rfl dX12_give_178 ?_
    refine lv_iload_n hx hb dX12_give_181 rfl (lv_at hl 2 rfl) ?_
    refine lv_iload_n hx hb dX12_give_182 rfl (lv_at hl 0 rfl) ?_
    refine va_iast hx hb hK hP hD hS 4 0 rfl rfl (show vp_in 3 7 from by unfold vp_in; decide) dX12_give_183 (fun H locs hP hD hS => ?_)
    have hP : va_P E.1 vwCl [(h0, .inr (12, mG q i_taped i_size i_sort i_what i_at i_end i_worth i_faultKind i_faultPlace i_got i_worked (nI dl) i_isPlanned u_15 u_16)), (q 51, .inl (E.2.1 0, 512, .inl a_least)), (q 55, .inl (E.2.1 0, 4, .inl f_31)), (q 54, .inl (E.2.1 0, 7, .inl u_18)), (q 53, .inl (E.2.1 0, 7, .inl (upd u_19 (Int32.toNatClampNeg 3) 1)))] H := hP
    have hD : va_D A [(h0, .inr (12, mG q i_taped i_size i_sort i_what i_at i_end i_worth i_faultKind i_faultPlace i_got i_worked (nI dl) i_isPlanned u_15 u_16)), (q 51, .inl (E.2.1 0, 512, .inl a_least)), (q 55, .inl (E.2.1 0, 4, .inl f_31)), (q 54, .inl (E.2.1 0, 7, .inl u_18)), (q 53, .inl (E.2.1 0, 7, .inl (upd u_19 (Int32.toNatClampNeg 3) 1)))] := hD
    obtain ⟨f_33, ef_33⟩ : ∃ g : Nat → Int32, g = upd u_19 (Int32.toNatClampNeg 3) 1 := ⟨_, rfl⟩
    rw [← ef_33] at hP hD
    refine lv_aload_n hx hb dX12_give_184 rfl (lv_at hl 1 rfl) ?_
    refine va_get (D := E.1) (ci := 12) (v := .ref (q 55)) (C := RX12) (T := TX12) (N := 59) hx hb hts inX12 hown hK hP 0 rfl rfl 55 (by decide) fl142 (fun _ h9 => h9) rfl dX12_give_185 ?_
    refine lv_iload_n hx hb dX12_give_188 rfl (lv_at hl 0 rfl) ?_
    refine lv_dup2_11 hx hb dX12_give_189 rfl rfl ?_
    refine va_iald hx hb hK hP 2 0 rfl rfl (show vp_in 1 4 from by unfold vp_in; decide) dX12_give_190 ?_
    refine lv_topi (fun x_34 ex_34 => ?_)
    have hv_35 : inR x_34 0 127 = true := by rw [ex_34]; exact hI_32 _ (vin_cl (show vp_in 1 4 from by unfold vp_in; decide))
    obtain ⟨w_36, hw_37, ew_38⟩ := inR_nI (n := 127) (by decide) hv_35
    subst ew_38
    refine lv_iconst (v := 1) hx hb dX12_give_191 (by decide) ?_
    refine lv_iload_n hx hb dX12_give_192 rfl (lv_at hl 2 rfl) ?_
    refine lv_ishl hx hb dX12_give_193 ?_
    refine lv_topi (fun x_39 ex_39 => ?_)
    obtain rfl : x_39 = 8 := ex_39.trans (by decide +kernel)
    refine lv_ior hx hb dX12_give_194 ?_
    refine lv_topi (fun x_40 ex_40 => ?_)
    refine va_iast hx hb hK hP hD hS 2 0 rfl rfl (show vp_in 1 4 from by unfold vp_in; decide) dX12_give_195 (fun H locs hP hD hS => ?_)
    have hP : va_P E.1 vwCl [(h0, .inr (12, mG q i_taped i_size i_sort i_what i_at i_end i_worth i_faultKind i_faultPlace i_got i_worked (nI dl) i_isPlanned u_15 u_16)), (q 51, .inl (E.2.1 0, 512, .inl a_least)), (q 55, .inl (E.2.1 0, 4, .inl (upd f_31 (Int32.toNatClampNeg 1) x_40))), (q 54, .inl (E.2.1 0, 7, .inl u_18)), (q 53, .inl (E.2.1 0, 7, .inl f_33))] H := hP
    have hD : va_D A [(h0, .inr (12, mG q i_taped i_size i_sort i_what i_at i_end i_worth i_faultKind i_faultPlace i_got i_worked (nI dl) i_isPlanned u_15 u_16)), (q 51, .inl (E.2.1 0, 512, .inl a_least)), (q 55, .inl (E.2.1 0, 4, .inl (upd f_31 (Int32.toNatClampNeg 1) x_40))), (q 54, .inl (E.2.1 0, 7, .inl u_18)), (q 53, .inl (E.2.1 0, 7, .inl f_33))] := hD
    obtain ⟨f_41, ef_41⟩ : ∃ g : Nat → Int32, g = upd f_31 (Int32.toNatClampNeg 1) x_40 := ⟨_, rfl⟩
    rw [← ef_41] at hP hD
    have hI_42 : ∀ k : Nat, k < 4 → inR (f_41 k) 0 127 = true := by rw [ef_41]; exact all_upd (P := fun z => inR z 0 127 = true) hI_32 (by rw [ex_40]; exact or_lt7 _ (by omega) 3 (by decide))
    refine lv_aload_n hx hb dX12_give_196 rfl (lv_at hl 1 rfl) ?_
    refine lv_iload_n hx hb dX12_give_197 rfl (lv_at hl 2 rfl) ?_
    refine lv_iconst (v := 1) hx hb dX12_give_198 (by decide) ?_
    refine lv_iadd hx hb dX12_give_199 ?_
    refine lv_topi (fun x_43 ex_43 => ?_)
    obtain rfl : x_43 = 4 := ex_43.trans (by decide +kernel)
    have hp1 : ∀ i : Nat, i < 4 → f_41 i = put a_sets 1 3 i := put_of (prev := f_31) (x := x_40) (y := nI w_36) (z := 8) hb0 (by decide) (ef_41.trans (by rw [show Int32.toNatClampNeg 1 = 1 from by decide])) ex_40 (ex_34.trans (by rw [show Int32.toNatClampNeg 1 = 1 from by decide])) (by decide)
    have hv1 : ∀ k : Nat, k < 3 + 1 → f_33 k = gI (pg gp 3 1 k) := gv_put (cur := u_19) (gv_cur (fun k hk => rfl) (ef_2.trans (by rw [show Int32.toNatClampNeg 3 = 3 from by decide])) hf_22) hGv (ef_33.trans (by rw [show Int32.toNatClampNeg 3 = 3 from by decide])) (by decide)
    have hPc := hP.sub (ws' := [(h0, .inr (12, mG q i_taped i_size i_sort i_what i_at i_end i_worth i_faultKind i_faultPlace i_got i_worked (nI dl) i_isPlanned u_15 u_16)), (q 51, .inl (E.2.1 0, 512, .inl a_least)), (q 55, .inl (E.2.1 0, 4, .inl f_41)), (q 54, .inl (E.2.1 0, 7, .inl u_18)), (q 53, .inl (E.2.1 0, 7, .inl f_33))]) [0, 1, 2, 3, 4] rfl
    have hDc := hD.sub (ws' := [(h0, .inr (12, mG q i_taped i_size i_sort i_what i_at i_end i_worth i_faultKind i_faultPlace i_got i_worked (nI dl) i_isPlanned u_15 u_16)), (q 51, .inl (E.2.1 0, 512, .inl a_least)), (q 55, .inl (E.2.1 0, 4, .inl f_41)), (q 54, .inl (E.2.1 0, 7, .inl u_18)), (q 53, .inl (E.2.1 0, 7, .inl f_33))]) [0, 1, 2, 3, 4] (by decide) rfl
    have hFc := va_free (wc := [(h0, .inr (12, mG q i_taped i_size i_sort i_what i_at i_end i_worth i_faultKind i_faultPlace i_got i_worked (nI dl) i_isPlanned u_15 u_16)), (q 51, .inl (E.2.1 0, 512, .inl a_least)), (q 55, .inl (E.2.1 0, 4, .inl f_41)), (q 54, .inl (E.2.1 0, 7, .inl u_18)), (q 53, .inl (E.2.1 0, 7, .inl f_33))]) hD hS hA [0, 1, 2, 3, 4] rfl
    refine va_callv (va_runV (As := [.int 4]) (rest := []) ⟨hx, hb, hml, hown, hts⟩ (c_X12_give4 l E h0 q i_taped i_size i_sort i_what i_at i_end i_worth i_faultKind i_faultPlace i_got i_worked i_isPlanned u_15 u_16 dl FF CC (pg gp 3 1) a_least f_41 u_18 f_33 H.size hdl hd2 (pg_le hp (by decide)) (st_put hSt hp1) hv1 (BG_M M_s hw_14) hKm hCb hI_42) (cwV 1 hts gX12_give_X12_give rfl rfl rfl hdV_X12_give ⟨Nat.le_of_ble_eq_true rfl, Nat.le_of_ble_eq_true rfl⟩) ⟨pcW_blind, va_recv hK hPc (ci := 12) (q0 := 0) rfl rfl, (pcW_pre hPc hkn hDc hst hS hFc)⟩ rfl rfl hl.1 rfl (lv_room (Nat.le_of_ble_eq_true rfl)) dX12_give_200 ⟨Nat.le_of_ble_eq_true rfl, Nat.le_of_ble_eq_true rfl⟩) hS (fun q _ h => hFc q h) hFc (fun u t H1 locs ht hvm hw_45 hB hz1 hk1 hS => ?_)
    obtain ⟨u_46, u_47, u_48, u_49, u_50⟩ := u
    obtain ⟨hf_51, hf_52, hf_53, hP1, hD1⟩ := hB
    rw [ht] at hP1
    try dsimp only at hw_45
    obtain ⟨hP, hD⟩ := va_join (wr := []) (w1 := [(h0, .inr (12, mG q i_taped i_size i_sort i_what i_at i_end i_worth i_faultKind i_faultPlace i_got i_worked (nI dl) i_isPlanned u_46 u_47)), (q 51, .inl (E.2.1 0, 512, .inl a_least)), (q 55, .inl (E.2.1 0, 4, .inl u_48)), (q 54, .inl (E.2.1 0, 7, .inl u_49)), (q 53, .inl (E.2.1 0, 7, .inl u_50))]) hP hD [0, 1, 2, 3, 4] [] rfl rfl (by decide) (by decide) hk1 hFc hP1 hD1
    generalize H1 = H at hP hS ⊢
    have hP : va_P E.1 vwCl [(h0, .inr (12, mG q i_taped i_size i_sort i_what i_at i_end i_worth i_faultKind i_faultPlace i_got i_worked (nI dl) i_isPlanned u_46 u_47)), (q 51, .inl (E.2.1 0, 512, .inl a_least)), (q 55, .inl (E.2.1 0, 4, .inl u_48)), (q 54, .inl (E.2.1 0, 7, .inl u_49)), (q 53, .inl (E.2.1 0, 7, .inl u_50))] H := hP
    have hD : va_D A [(h0, .inr (12, mG q i_taped i_size i_sort i_what i_at i_end i_worth i_faultKind i_faultPlace i_got i_worked (nI dl) i_isPlanned u_46 u_47)), (q 51, .inl (E.2.1 0, 512, .inl a_least)), (q 55, .inl (E.2.1 0, 4, .inl u_48)), (q 54, .inl (E.2.1 0, 7, .inl u_49)), (q 53, .inl (E.2.1 0, 7, .inl u_50))] := hD
    refine lv_aload_n hx hb dX12_give_203 rfl (lv_at hl 1 rfl) ?_
    refine va_get (D := E.1) (ci := 12) (v := .ref (q 55)) (C := RX12) (T := TX12) (N := 59) hx hb hts inX12 hown hK hP 0 rfl rfl 55 (by decide) fl142 (fun _ h9 => h9) rfl dX12_give_204 ?_
    refine lv_iload_n hx hb dX12_give_207 rfl (lv_at hl 0 rfl) ?_
    refine lv_dup2_11 hx hb dX12_give_208 rfl rfl ?_
    refine va_iald hx hb hK hP 2 0 rfl rfl (show vp_in 1 4 from by unfold vp_in; decide) dX12_give_209 ?_
    refine lv_topi (fun x_54 ex_54 => ?_)
    have hv_55 : inR x_54 0 127 = true := by rw [ex_54]; exact hf_51 _ (vin_cl (show vp_in 1 4 from by unfold vp_in; decide))
    obtain ⟨w_56, hw_57, ew_58⟩ := inR_nI (n := 127) (by decide) hv_55
    subst ew_58
    refine lv_iconst (v := 1) hx hb dX12_give_210 (by decide) ?_
    refine lv_iload_n hx hb dX12_give_211 rfl (lv_at hl 2 rfl) ?_
    refine lv_ishl hx hb dX12_give_212 ?_
    refine lv_topi (fun x_59 ex_59 => ?_)
    obtain rfl : x_59 = 8 := ex_59.trans (by decide +kernel)
    refine lv_iconst (v := (-1)) hx hb dX12_give_213 (by decide) ?_
    refine lv_ixor hx hb dX12_give_214 ?_
    refine lv_topi (fun x_60 ex_60 => ?_)
    obtain rfl : x_60 = (-9) := ex_60.trans (by decide +kernel)
    refine lv_iand hx hb dX12_give_215 ?_
    refine lv_topi (fun x_61 ex_61 => ?_)
    refine va_iast hx hb hK hP hD hS 2 0 rfl rfl (show vp_in 1 4 from by unfold vp_in; decide) dX12_give_216 (fun H locs hP hD hS => ?_)
    have hP : va_P E.1 vwCl [(h0, .inr (12, mG q i_taped i_size i_sort i_what i_at i_end i_worth i_faultKind i_faultPlace i_got i_worked (nI dl) i_isPlanned u_46 u_47)), (q 51, .inl (E.2.1 0, 512, .inl a_least)), (q 55, .inl (E.2.1 0, 4, .inl (upd u_48 (Int32.toNatClampNeg 1) x_61))), (q 54, .inl (E.2.1 0, 7, .inl u_49)), (q 53, .inl (E.2.1 0, 7, .inl u_50))] H := hP
    have hD : va_D A [(h0, .inr (12, mG q i_taped i_size i_sort i_what i_at i_end i_worth i_faultKind i_faultPlace i_got i_worked (nI dl) i_isPlanned u_46 u_47)), (q 51, .inl (E.2.1 0, 512, .inl a_least)), (q 55, .inl (E.2.1 0, 4, .inl (upd u_48 (Int32.toNatClampNeg 1) x_61))), (q 54, .inl (E.2.1 0, 7, .inl u_49)), (q 53, .inl (E.2.1 0, 7, .inl u_50))] := hD
    obtain ⟨f_62, ef_62⟩ : ∃ g : Nat → Int32, g = upd u_48 (Int32.toNatClampNeg 1) x_61 := ⟨_, rfl⟩
    rw [← ef_62] at hP hD
    have hI_63 : ∀ k : Nat, k < 4 → inR (f_62 k) 0 127 = true := by rw [ef_62]; exact all_upd (P := fun z => inR z 0 127 = true) hf_51 (by rw [ex_61]; exact and_lt7 _ (by omega) 3 (by decide))
    have hb1 : ∀ i : Nat, i < 4 → f_62 i = a_sets i := gback_of (u := u_48) (x := x_61) (y := nI w_56) (z := (-9)) (by decide) (by decide) ⟨gp, hSt⟩ hp1 hf_52 (ef_62.trans (by rw [show Int32.toNatClampNeg 1 = 1 from by decide])) ex_61 (ex_54.trans (by rw [show Int32.toNatClampNeg 1 = 1 from by decide])) (by decide)
    refine lv_iinc (v := 2) (lv' := [(2, .int 2), (0, .ref h0), (1, .int 3)]) hx hb dX12_give_217 hl (k := 0) rfl (by decide) (by decide) rfl (fun ls hl => ?_)
    refine lv_goto (tgt := 172) hx hb dX12_give_220 (by decide) ?_
    refine lv_iload_n hx hb dX12_give_172 rfl (lv_at hl 0 rfl) ?_
    refine lv_iconst (v := 4) hx hb dX12_give_173 (by decide) ?_
    refine lv_icmp_ge (tgt := 223) hx hb dX12_give_174 (by decide) (fun c9 => absurd c9 (by decide)) (fun _ => ?_)
    refine lv_aload_n hx hb dX12_give_177 rfl (lv_at hl 1 rfl) ?_
    refine va_get (D := E.1) (ci := 12) (v := .ref (q 53)) (C := RX12) (T := TX12) (N := 59) hx hb hts inX12 hown hK hP 0 rfl rfl 53 (by decide) fl136 (fun _ h9 => h9) rfl dX12_give_178 ?_
    refine lv_iload_n hx hb dX12_give_181 rfl (lv_at hl 2 rfl) ?_
    refine lv_iload_n hx hb dX12_give_182 rfl (lv_at hl 0 rfl) ?_
    refine va_iast hx hb hK hP hD hS 4 0 rfl rfl (show vp_in 3 7 from by unfold vp_in; decide) dX12_give_183 (fun H locs hP hD hS => ?_)
    have hP : va_P E.1 vwCl [(h0, .inr (12, mG q i_taped i_size i_sort i_what i_at i_end i_worth i_faultKind i_faultPlace i_got i_worked (nI dl) i_isPlanned u_46 u_47)), (q 51, .inl (E.2.1 0, 512, .inl a_least)), (q 55, .inl (E.2.1 0, 4, .inl f_62)), (q 54, .inl (E.2.1 0, 7, .inl u_49)), (q 53, .inl (E.2.1 0, 7, .inl (upd u_50 (Int32.toNatClampNeg 3) 2)))] H := hP
    have hD : va_D A [(h0, .inr (12, mG q i_taped i_size i_sort i_what i_at i_end i_worth i_faultKind i_faultPlace i_got i_worked (nI dl) i_isPlanned u_46 u_47)), (q 51, .inl (E.2.1 0, 512, .inl a_least)), (q 55, .inl (E.2.1 0, 4, .inl f_62)), (q 54, .inl (E.2.1 0, 7, .inl u_49)), (q 53, .inl (E.2.1 0, 7, .inl (upd u_50 (Int32.toNatClampNeg 3) 2)))] := hD
    obtain ⟨f_64, ef_64⟩ : ∃ g : Nat → Int32, g = upd u_50 (Int32.toNatClampNeg 3) 2 := ⟨_, rfl⟩
    rw [← ef_64] at hP hD
    refine lv_aload_n hx hb dX12_give_184 rfl (lv_at hl 1 rfl) ?_
    refine va_get (D := E.1) (ci := 12) (v := .ref (q 55)) (C := RX12) (T := TX12) (N := 59) hx hb hts inX12 hown hK hP 0 rfl rfl 55 (by decide) fl142 (fun _ h9 => h9) rfl dX12_give_185 ?_
    refine lv_iload_n hx hb dX12_give_188 rfl (lv_at hl 0 rfl) ?_
    refine lv_dup2_11 hx hb dX12_give_189 rfl rfl ?_
    refine va_iald hx hb hK hP 2 0 rfl rfl (show vp_in 2 4 from by unfold vp_in; decide) dX12_give_190 ?_
    refine lv_topi (fun x_65 ex_65 => ?_)
    have hv_66 : inR x_65 0 127 = true := by rw [ex_65]; exact hI_63 _ (vin_cl (show vp_in 2 4 from by unfold vp_in; decide))
    obtain ⟨w_67, hw_68, ew_69⟩ := inR_nI (n := 127) (by decide) hv_66
    subst ew_69
    refine lv_iconst (v := 1) hx hb dX12_give_191 (by decide) ?_
    refine lv_iload_n hx hb dX12_give_192 rfl (lv_at hl 2 rfl) ?_
    refine lv_ishl hx hb dX12_give_193 ?_
    refine lv_topi (fun x_70 ex_70 => ?_)
    obtain rfl : x_70 = 8 := ex_70.trans (by decide +kernel)
    refine lv_ior hx hb dX12_give_194 ?_
    refine lv_topi (fun x_71 ex_71 => ?_)
    refine va_iast hx hb hK hP hD hS 2 0 rfl rfl (show vp_in 2 4 from by unfold vp_in; decide) dX12_give_195 (fun H locs hP hD hS => ?_)
    have hP : va_P E.1 vwCl [(h0, .inr (12, mG q i_taped i_size i_sort i_what i_at i_end i_worth i_faultKind i_faultPlace i_got i_worked (nI dl) i_isPlanned u_46 u_47)), (q 51, .inl (E.2.1 0, 512, .inl a_least)), (q 55, .inl (E.2.1 0, 4, .inl (upd f_62 (Int32.toNatClampNeg 2) x_71))), (q 54, .inl (E.2.1 0, 7, .inl u_49)), (q 53, .inl (E.2.1 0, 7, .inl f_64))] H := hP
    have hD : va_D A [(h0, .inr (12, mG q i_taped i_size i_sort i_what i_at i_end i_worth i_faultKind i_faultPlace i_got i_worked (nI dl) i_isPlanned u_46 u_47)), (q 51, .inl (E.2.1 0, 512, .inl a_least)), (q 55, .inl (E.2.1 0, 4, .inl (upd f_62 (Int32.toNatClampNeg 2) x_71))), (q 54, .inl (E.2.1 0, 7, .inl u_49)), (q 53, .inl (E.2.1 0, 7, .inl f_64))] := hD
    obtain ⟨f_72, ef_72⟩ : ∃ g : Nat → Int32, g = upd f_62 (Int32.toNatClampNeg 2) x_71 := ⟨_, rfl⟩
    rw [← ef_72] at hP hD
    have hI_73 : ∀ k : Nat, k < 4 → inR (f_72 k) 0 127 = true := by rw [ef_72]; exact all_upd (P := fun z => inR z 0 127 = true) hI_63 (by rw [ex_71]; exact or_lt7 _ (by omega) 3 (by decide))
    refine lv_aload_n hx hb dX12_give_196 rfl (lv_at hl 1 rfl) ?_
    refine lv_iload_n hx hb dX12_give_197 rfl (lv_at hl 2 rfl) ?_
    refine lv_iconst (v := 1) hx hb dX12_give_198 (by decide) ?_
    refine lv_iadd hx hb dX12_give_199 ?_
    refine lv_topi (fun x_74 ex_74 => ?_)
    obtain rfl : x_74 = 4 := ex_74.trans (by decide +kernel)
    have hp2 : ∀ i : Nat, i < 4 → f_72 i = put a_sets 2 3 i := put_of (prev := f_62) (x := x_71) (y := nI w_67) (z := 8) hb1 (by decide) (ef_72.trans (by rw [show Int32.toNatClampNeg 2 = 2 from by decide])) ex_71 (ex_65.trans (by rw [show Int32.toNatClampNeg 2 = 2 from by decide])) (by decide)
    have hv2 : ∀ k : Nat, k < 3 + 1 → f_64 k = gI (pg gp 3 2 k) := gv_put (cur := u_50) (gv_cur (gv_cur (fun k hk => rfl) (ef_2.trans (by rw [show Int32.toNatClampNeg 3 = 3 from by decide])) hf_22) (ef_33.trans (by rw [show Int32.toNatClampNeg 3 = 3 from by decide])) hf_53) hGv (ef_64.trans (by rw [show Int32.toNatClampNeg 3 = 3 from by decide])) (by decide)
    have hPc := hP.sub (ws' := [(h0, .inr (12, mG q i_taped i_size i_sort i_what i_at i_end i_worth i_faultKind i_faultPlace i_got i_worked (nI dl) i_isPlanned u_46 u_47)), (q 51, .inl (E.2.1 0, 512, .inl a_least)), (q 55, .inl (E.2.1 0, 4, .inl f_72)), (q 54, .inl (E.2.1 0, 7, .inl u_49)), (q 53, .inl (E.2.1 0, 7, .inl f_64))]) [0, 1, 2, 3, 4] rfl
    have hDc := hD.sub (ws' := [(h0, .inr (12, mG q i_taped i_size i_sort i_what i_at i_end i_worth i_faultKind i_faultPlace i_got i_worked (nI dl) i_isPlanned u_46 u_47)), (q 51, .inl (E.2.1 0, 512, .inl a_least)), (q 55, .inl (E.2.1 0, 4, .inl f_72)), (q 54, .inl (E.2.1 0, 7, .inl u_49)), (q 53, .inl (E.2.1 0, 7, .inl f_64))]) [0, 1, 2, 3, 4] (by decide) rfl
    have hFc := va_free (wc := [(h0, .inr (12, mG q i_taped i_size i_sort i_what i_at i_end i_worth i_faultKind i_faultPlace i_got i_worked (nI dl) i_isPlanned u_46 u_47)), (q 51, .inl (E.2.1 0, 512, .inl a_least)), (q 55, .inl (E.2.1 0, 4, .inl f_72)), (q 54, .inl (E.2.1 0, 7, .inl u_49)), (q 53, .inl (E.2.1 0, 7, .inl f_64))]) hD hS hA [0, 1, 2, 3, 4] rfl
    refine va_callv (va_runV (As := [.int 4]) (rest := []) ⟨hx, hb, hml, hown, hts⟩ (c_X12_give4 l E h0 q i_taped i_size i_sort i_what i_at i_end i_worth i_faultKind i_faultPlace i_got i_worked i_isPlanned u_46 u_47 dl FF CC (pg gp 3 2) a_least f_72 u_49 f_64 H.size hdl hd2 (pg_le hp (by decide)) (st_put hSt hp2) hv2 (BG_M M_s hw_45) hKm hCb hI_73) (cwV 1 hts gX12_give_X12_give rfl rfl rfl hdV_X12_give ⟨Nat.le_of_ble_eq_true rfl, Nat.le_of_ble_eq_true rfl⟩) ⟨pcW_blind, va_recv hK hPc (ci := 12) (q0 := 0) rfl rfl, (pcW_pre hPc hkn hDc hst hS hFc)⟩ rfl rfl hl.1 rfl (lv_room (Nat.le_of_ble_eq_true rfl)) dX12_give_200 ⟨Nat.le_of_ble_eq_true rfl, Nat.le_of_ble_eq_true rfl⟩) hS (fun q _ h => hFc q h) hFc (fun u t H1 locs ht hvm hw_76 hB hz1 hk1 hS => ?_)
    obtain ⟨u_77, u_78, u_79, u_80, u_81⟩ := u
    obtain ⟨hf_82, hf_83, hf_84, hP1, hD1⟩ := hB
    rw [ht] at hP1
    try dsimp only at hw_76
    obtain ⟨hP, hD⟩ := va_join (wr := []) (w1 := [(h0, .inr (12, mG q i_taped i_size i_sort i_what i_at i_end i_worth i_faultKind i_faultPlace i_got i_worked (nI dl) i_isPlanned u_77 u_78)), (q 51, .inl (E.2.1 0, 512, .inl a_least)), (q 55, .inl (E.2.1 0, 4, .inl u_79)), (q 54, .inl (E.2.1 0, 7, .inl u_80)), (q 53, .inl (E.2.1 0, 7, .inl u_81))]) hP hD [0, 1, 2, 3, 4] [] rfl rfl (by decide) (by decide) hk1 hFc hP1 hD1
    generalize H1 = H at hP hS ⊢
    have hP : va_P E.1 vwCl [(h0, .inr (12, mG q i_taped i_size i_sort i_what i_at i_end i_worth i_faultKind i_faultPlace i_got i_worked (nI dl) i_isPlanned u_77 u_78)), (q 51, .inl (E.2.1 0, 512, .inl a_least)), (q 55, .inl (E.2.1 0, 4, .inl u_79)), (q 54, .inl (E.2.1 0, 7, .inl u_80)), (q 53, .inl (E.2.1 0, 7, .inl u_81))] H := hP
    have hD : va_D A [(h0, .inr (12, mG q i_taped i_size i_sort i_what i_at i_end i_worth i_faultKind i_faultPlace i_got i_worked (nI dl) i_isPlanned u_77 u_78)), (q 51, .inl (E.2.1 0, 512, .inl a_least)), (q 55, .inl (E.2.1 0, 4, .inl u_79)), (q 54, .inl (E.2.1 0, 7, .inl u_80)), (q 53, .inl (E.2.1 0, 7, .inl u_81))] := hD
    refine lv_aload_n hx hb dX12_give_203 rfl (lv_at hl 1 rfl) ?_
    refine va_get (D := E.1) (ci := 12) (v := .ref (q 55)) (C := RX12) (T := TX12) (N := 59) hx hb hts inX12 hown hK hP 0 rfl rfl 55 (by decide) fl142 (fun _ h9 => h9) rfl dX12_give_204 ?_
    refine lv_iload_n hx hb dX12_give_207 rfl (lv_at hl 0 rfl) ?_
    refine lv_dup2_11 hx hb dX12_give_208 rfl rfl ?_
    refine va_iald hx hb hK hP 2 0 rfl rfl (show vp_in 2 4 from by unfold vp_in; decide) dX12_give_209 ?_
    refine lv_topi (fun x_85 ex_85 => ?_)
    have hv_86 : inR x_85 0 127 = true := by rw [ex_85]; exact hf_82 _ (vin_cl (show vp_in 2 4 from by unfold vp_in; decide))
    obtain ⟨w_87, hw_88, ew_89⟩ := inR_nI (n := 127) (by decide) hv_86
    subst ew_89
    refine lv_iconst (v := 1) hx hb dX12_give_210 (by decide) ?_
    refine lv_iload_n hx hb dX12_give_211 rfl (lv_at hl 2 rfl) ?_
    refine lv_ishl hx hb dX12_give_212 ?_
    refine lv_topi (fun x_90 ex_90 => ?_)
    obtain rfl : x_90 = 8 := ex_90.trans (by decide +kernel)
    refine lv_iconst (v := (-1)) hx hb dX12_give_213 (by decide) ?_
    refine lv_ixor hx hb dX12_give_214 ?_
    refine lv_topi (fun x_91 ex_91 => ?_)
    obtain rfl : x_91 = (-9) := ex_91.trans (by decide +kernel)
    refine lv_iand hx hb dX12_give_215 ?_
    refine lv_topi (fun x_92 ex_92 => ?_)
    refine va_iast hx hb hK hP hD hS 2 0 rfl rfl (show vp_in 2 4 from by unfold vp_in; decide) dX12_give_216 (fun H locs hP hD hS => ?_)
    have hP : va_P E.1 vwCl [(h0, .inr (12, mG q i_taped i_size i_sort i_what i_at i_end i_worth i_faultKind i_faultPlace i_got i_worked (nI dl) i_isPlanned u_77 u_78)), (q 51, .inl (E.2.1 0, 512, .inl a_least)), (q 55, .inl (E.2.1 0, 4, .inl (upd u_79 (Int32.toNatClampNeg 2) x_92))), (q 54, .inl (E.2.1 0, 7, .inl u_80)), (q 53, .inl (E.2.1 0, 7, .inl u_81))] H := hP
    have hD : va_D A [(h0, .inr (12, mG q i_taped i_size i_sort i_what i_at i_end i_worth i_faultKind i_faultPlace i_got i_worked (nI dl) i_isPlanned u_77 u_78)), (q 51, .inl (E.2.1 0, 512, .inl a_least)), (q 55, .inl (E.2.1 0, 4, .inl (upd u_79 (Int32.toNatClampNeg 2) x_92))), (q 54, .inl (E.2.1 0, 7, .inl u_80)), (q 53, .inl (E.2.1 0, 7, .inl u_81))] := hD
    obtain ⟨f_93, ef_93⟩ : ∃ g : Nat → Int32, g = upd u_79 (Int32.toNatClampNeg 2) x_92 := ⟨_, rfl⟩
    rw [← ef_93] at hP hD
    have hI_94 : ∀ k : Nat, k < 4 → inR (f_93 k) 0 127 = true := by rw [ef_93]; exact all_upd (P := fun z => inR z 0 127 = true) hf_82 (by rw [ex_92]; exact and_lt7 _ (by omega) 3 (by decide))
    have hb2 : ∀ i : Nat, i < 4 → f_93 i = a_sets i := gback_of (u := u_79) (x := x_92) (y := nI w_87) (z := (-9)) (by decide) (by decide) ⟨gp, hSt⟩ hp2 hf_83 (ef_93.trans (by rw [show Int32.toNatClampNeg 2 = 2 from by decide])) ex_92 (ex_85.trans (by rw [show Int32.toNatClampNeg 2 = 2 from by decide])) (by decide)
    refine lv_iinc (v := 3) (lv' := [(2, .int 3), (0, .ref h0), (1, .int 3)]) hx hb dX12_give_217 hl (k := 0) rfl (by decide) (by decide) rfl (fun ls hl => ?_)
    refine lv_goto (tgt := 172) hx hb dX12_give_220 (by decide) ?_
    refine lv_iload_n hx hb dX12_give_172 rfl (lv_at hl 0 rfl) ?_
    refine lv_iconst (v := 4) hx hb dX12_give_173 (by decide) ?_
    refine lv_icmp_ge (tgt := 223) hx hb dX12_give_174 (by decide) (fun c9 => absurd c9 (by decide)) (fun _ => ?_)
    refine lv_aload_n hx hb dX12_give_177 rfl (lv_at hl 1 rfl) ?_
    refine va_get (D := E.1) (ci := 12) (v := .ref (q 53)) (C := RX12) (T := TX12) (N := 59) hx hb hts inX12 hown hK hP 0 rfl rfl 53 (by decide) fl136 (fun _ h9 => h9) rfl dX12_give_178 ?_
    refine lv_iload_n hx hb dX12_give_181 rfl (lv_at hl 2 rfl) ?_
    refine lv_iload_n hx hb dX12_give_182 rfl (lv_at hl 0 rfl) ?_
    refine va_iast hx hb hK hP hD hS 4 0 rfl rfl (show vp_in 3 7 from by unfold vp_in; decide) dX12_give_183 (fun H locs hP hD hS => ?_)
    have hP : va_P E.1 vwCl [(h0, .inr (12, mG q i_taped i_size i_sort i_what i_at i_end i_worth i_faultKind i_faultPlace i_got i_worked (nI dl) i_isPlanned u_77 u_78)), (q 51, .inl (E.2.1 0, 512, .inl a_least)), (q 55, .inl (E.2.1 0, 4, .inl f_93)), (q 54, .inl (E.2.1 0, 7, .inl u_80)), (q 53, .inl (E.2.1 0, 7, .inl (upd u_81 (Int32.toNatClampNeg 3) 3)))] H := hP
    have hD : va_D A [(h0, .inr (12, mG q i_taped i_size i_sort i_what i_at i_end i_worth i_faultKind i_faultPlace i_got i_worked (nI dl) i_isPlanned u_77 u_78)), (q 51, .inl (E.2.1 0, 512, .inl a_least)), (q 55, .inl (E.2.1 0, 4, .inl f_93)), (q 54, .inl (E.2.1 0, 7, .inl u_80)), (q 53, .inl (E.2.1 0, 7, .inl (upd u_81 (Int32.toNatClampNeg 3) 3)))] := hD
    obtain ⟨f_95, ef_95⟩ : ∃ g : Nat → Int32, g = upd u_81 (Int32.toNatClampNeg 3) 3 := ⟨_, rfl⟩
    rw [← ef_95] at hP hD
    refine lv_aload_n hx hb dX12_give_184 rfl (lv_at hl 1 rfl) ?_
    refine va_get (D := E.1) (ci := 12) (v := .ref (q 55)) (C := RX12) (T := TX12) (N := 59) hx hb hts inX12 hown hK hP 0 rfl rfl 55 (by decide) fl142 (fun _ h9 => h9) rfl dX12_give_185 ?_
    refine lv_iload_n hx hb dX12_give_188 rfl (lv_at hl 0 rfl) ?_
    refine lv_dup2_11 hx hb dX12_give_189 rfl rfl ?_
    refine va_iald hx hb hK hP 2 0 rfl rfl (show vp_in 3 4 from by unfold vp_in; decide) dX12_give_190 ?_
    refine lv_topi (fun x_96 ex_96 => ?_)
    have hv_97 : inR x_96 0 127 = true := by rw [ex_96]; exact hI_94 _ (vin_cl (show vp_in 3 4 from by unfold vp_in; decide))
    obtain ⟨w_98, hw_99, ew_100⟩ := inR_nI (n := 127) (by decide) hv_97
    subst ew_100
    refine lv_iconst (v := 1) hx hb dX12_give_191 (by decide) ?_
    refine lv_iload_n hx hb dX12_give_192 rfl (lv_at hl 2 rfl) ?_
    refine lv_ishl hx hb dX12_give_193 ?_
    refine lv_topi (fun x_101 ex_101 => ?_)
    obtain rfl : x_101 = 8 := ex_101.trans (by decide +kernel)
    refine lv_ior hx hb dX12_give_194 ?_
    refine lv_topi (fun x_102 ex_102 => ?_)
    refine va_iast hx hb hK hP hD hS 2 0 rfl rfl (show vp_in 3 4 from by unfold vp_in; decide) dX12_give_195 (fun H locs hP hD hS => ?_)
    have hP : va_P E.1 vwCl [(h0, .inr (12, mG q i_taped i_size i_sort i_what i_at i_end i_worth i_faultKind i_faultPlace i_got i_worked (nI dl) i_isPlanned u_77 u_78)), (q 51, .inl (E.2.1 0, 512, .inl a_least)), (q 55, .inl (E.2.1 0, 4, .inl (upd f_93 (Int32.toNatClampNeg 3) x_102))), (q 54, .inl (E.2.1 0, 7, .inl u_80)), (q 53, .inl (E.2.1 0, 7, .inl f_95))] H := hP
    have hD : va_D A [(h0, .inr (12, mG q i_taped i_size i_sort i_what i_at i_end i_worth i_faultKind i_faultPlace i_got i_worked (nI dl) i_isPlanned u_77 u_78)), (q 51, .inl (E.2.1 0, 512, .inl a_least)), (q 55, .inl (E.2.1 0, 4, .inl (upd f_93 (Int32.toNatClampNeg 3) x_102))), (q 54, .inl (E.2.1 0, 7, .inl u_80)), (q 53, .inl (E.2.1 0, 7, .inl f_95))] := hD
    obtain ⟨f_103, ef_103⟩ : ∃ g : Nat → Int32, g = upd f_93 (Int32.toNatClampNeg 3) x_102 := ⟨_, rfl⟩
    rw [← ef_103] at hP hD
    have hI_104 : ∀ k : Nat, k < 4 → inR (f_103 k) 0 127 = true := by rw [ef_103]; exact all_upd (P := fun z => inR z 0 127 = true) hI_94 (by rw [ex_102]; exact or_lt7 _ (by omega) 3 (by decide))
    refine lv_aload_n hx hb dX12_give_196 rfl (lv_at hl 1 rfl) ?_
    refine lv_iload_n hx hb dX12_give_197 rfl (lv_at hl 2 rfl) ?_
    refine lv_iconst (v := 1) hx hb dX12_give_198 (by decide) ?_
    refine lv_iadd hx hb dX12_give_199 ?_
    refine lv_topi (fun x_105 ex_105 => ?_)
    obtain rfl : x_105 = 4 := ex_105.trans (by decide +kernel)
    have hp3 : ∀ i : Nat, i < 4 → f_103 i = put a_sets 3 3 i := put_of (prev := f_93) (x := x_102) (y := nI w_98) (z := 8) hb2 (by decide) (ef_103.trans (by rw [show Int32.toNatClampNeg 3 = 3 from by decide])) ex_102 (ex_96.trans (by rw [show Int32.toNatClampNeg 3 = 3 from by decide])) (by decide)
    have hv3 : ∀ k : Nat, k < 3 + 1 → f_95 k = gI (pg gp 3 3 k) := gv_put (cur := u_81) (gv_cur (gv_cur (gv_cur (fun k hk => rfl) (ef_2.trans (by rw [show Int32.toNatClampNeg 3 = 3 from by decide])) hf_22) (ef_33.trans (by rw [show Int32.toNatClampNeg 3 = 3 from by decide])) hf_53) (ef_64.trans (by rw [show Int32.toNatClampNeg 3 = 3 from by decide])) hf_84) hGv (ef_95.trans (by rw [show Int32.toNatClampNeg 3 = 3 from by decide])) (by decide)
    have hPc := hP.sub (ws' := [(h0, .inr (12, mG q i_taped i_size i_sort i_what i_at i_end i_worth i_faultKind i_faultPlace i_got i_worked (nI dl) i_isPlanned u_77 u_78)), (q 51, .inl (E.2.1 0, 512, .inl a_least)), (q 55, .inl (E.2.1 0, 4, .inl f_103)), (q 54, .inl (E.2.1 0, 7, .inl u_80)), (q 53, .inl (E.2.1 0, 7, .inl f_95))]) [0, 1, 2, 3, 4] rfl
    have hDc := hD.sub (ws' := [(h0, .inr (12, mG q i_taped i_size i_sort i_what i_at i_end i_worth i_faultKind i_faultPlace i_got i_worked (nI dl) i_isPlanned u_77 u_78)), (q 51, .inl (E.2.1 0, 512, .inl a_least)), (q 55, .inl (E.2.1 0, 4, .inl f_103)), (q 54, .inl (E.2.1 0, 7, .inl u_80)), (q 53, .inl (E.2.1 0, 7, .inl f_95))]) [0, 1, 2, 3, 4] (by decide) rfl
    have hFc := va_free (wc := [(h0, .inr (12, mG q i_taped i_size i_sort i_what i_at i_end i_worth i_faultKind i_faultPlace i_got i_worked (nI dl) i_isPlanned u_77 u_78)), (q 51, .inl (E.2.1 0, 512, .inl a_least)), (q 55, .inl (E.2.1 0, 4, .inl f_103)), (q 54, .inl (E.2.1 0, 7, .inl u_80)), (q 53, .inl (E.2.1 0, 7, .inl f_95))]) hD hS hA [0, 1, 2, 3, 4] rfl
    refine va_callv (va_runV (As := [.int 4]) (rest := []) ⟨hx, hb, hml, hown, hts⟩ (c_X12_give4 l E h0 q i_taped i_size i_sort i_what i_at i_end i_worth i_faultKind i_faultPlace i_got i_worked i_isPlanned u_77 u_78 dl FF CC (pg gp 3 3) a_least f_103 u_80 f_95 H.size hdl hd2 (pg_le hp (by decide)) (st_put hSt hp3) hv3 (BG_M M_s hw_76) hKm hCb hI_104) (cwV 1 hts gX12_give_X12_give rfl rfl rfl hdV_X12_give ⟨Nat.le_of_ble_eq_true rfl, Nat.le_of_ble_eq_true rfl⟩) ⟨pcW_blind, va_recv hK hPc (ci := 12) (q0 := 0) rfl rfl, (pcW_pre hPc hkn hDc hst hS hFc)⟩ rfl rfl hl.1 rfl (lv_room (Nat.le_of_ble_eq_true rfl)) dX12_give_200 ⟨Nat.le_of_ble_eq_true rfl, Nat.le_of_ble_eq_true rfl⟩) hS (fun q _ h => hFc q h) hFc (fun u t H1 locs ht hvm hw_107 hB hz1 hk1 hS => ?_)
    obtain ⟨u_108, u_109, u_110, u_111, u_112⟩ := u
    obtain ⟨hf_113, hf_114, hf_115, hP1, hD1⟩ := hB
    rw [ht] at hP1
    try dsimp only at hw_107
    obtain ⟨hP, hD⟩ := va_join (wr := []) (w1 := [(h0, .inr (12, mG q i_taped i_size i_sort i_what i_at i_end i_worth i_faultKind i_faultPlace i_got i_worked (nI dl) i_isPlanned u_108 u_109)), (q 51, .inl (E.2.1 0, 512, .inl a_least)), (q 55, .inl (E.2.1 0, 4, .inl u_110)), (q 54, .inl (E.2.1 0, 7, .inl u_111)), (q 53, .inl (E.2.1 0, 7, .inl u_112))]) hP hD [0, 1, 2, 3, 4] [] rfl rfl (by decide) (by decide) hk1 hFc hP1 hD1
    generalize H1 = H at hP hS ⊢
    have hP : va_P E.1 vwCl [(h0, .inr (12, mG q i_taped i_size i_sort i_what i_at i_end i_worth i_faultKind i_faultPlace i_got i_worked (nI dl) i_isPlanned u_108 u_109)), (q 51, .inl (E.2.1 0, 512, .inl a_least)), (q 55, .inl (E.2.1 0, 4, .inl u_110)), (q 54, .inl (E.2.1 0, 7, .inl u_111)), (q 53, .inl (E.2.1 0, 7, .inl u_112))] H := hP
    have hD : va_D A [(h0, .inr (12, mG q i_taped i_size i_sort i_what i_at i_end i_worth i_faultKind i_faultPlace i_got i_worked (nI dl) i_isPlanned u_108 u_109)), (q 51, .inl (E.2.1 0, 512, .inl a_least)), (q 55, .inl (E.2.1 0, 4, .inl u_110)), (q 54, .inl (E.2.1 0, 7, .inl u_111)), (q 53, .inl (E.2.1 0, 7, .inl u_112))] := hD
    refine lv_aload_n hx hb dX12_give_203 rfl (lv_at hl 1 rfl) ?_
    refine va_get (D := E.1) (ci := 12) (v := .ref (q 55)) (C := RX12) (T := TX12) (N := 59) hx hb hts inX12 hown hK hP 0 rfl rfl 55 (by decide) fl142 (fun _ h9 => h9) rfl dX12_give_204 ?_
    refine lv_iload_n hx hb dX12_give_207 rfl (lv_at hl 0 rfl) ?_
    refine lv_dup2_11 hx hb dX12_give_208 rfl rfl ?_
    refine va_iald hx hb hK hP 2 0 rfl rfl (show vp_in 3 4 from by unfold vp_in; decide) dX12_give_209 ?_
    refine lv_topi (fun x_116 ex_116 => ?_)
    have hv_117 : inR x_116 0 127 = true := by rw [ex_116]; exact hf_113 _ (vin_cl (show vp_in 3 4 from by unfold vp_in; decide))
    obtain ⟨w_118, hw_119, ew_120⟩ := inR_nI (n := 127) (by decide) hv_117
    subst ew_120
    refine lv_iconst (v := 1) hx hb dX12_give_210 (by decide) ?_
    refine lv_iload_n hx hb dX12_give_211 rfl (lv_at hl 2 rfl) ?_
    refine lv_ishl hx hb dX12_give_212 ?_
    refine lv_topi (fun x_121 ex_121 => ?_)
    obtain rfl : x_121 = 8 := ex_121.trans (by decide +kernel)
    refine lv_iconst (v := (-1)) hx hb dX12_give_213 (by decide) ?_
    refine lv_ixor hx hb dX12_give_214 ?_
    refine lv_topi (fun x_122 ex_122 => ?_)
    obtain rfl : x_122 = (-9) := ex_122.trans (by decide +kernel)
    refine lv_iand hx hb dX12_give_215 ?_
    refine lv_topi (fun x_123 ex_123 => ?_)
    refine va_iast hx hb hK hP hD hS 2 0 rfl rfl (show vp_in 3 4 from by unfold vp_in; decide) dX12_give_216 (fun H locs hP hD hS => ?_)
    have hP : va_P E.1 vwCl [(h0, .inr (12, mG q i_taped i_size i_sort i_what i_at i_end i_worth i_faultKind i_faultPlace i_got i_worked (nI dl) i_isPlanned u_108 u_109)), (q 51, .inl (E.2.1 0, 512, .inl a_least)), (q 55, .inl (E.2.1 0, 4, .inl (upd u_110 (Int32.toNatClampNeg 3) x_123))), (q 54, .inl (E.2.1 0, 7, .inl u_111)), (q 53, .inl (E.2.1 0, 7, .inl u_112))] H := hP
    have hD : va_D A [(h0, .inr (12, mG q i_taped i_size i_sort i_what i_at i_end i_worth i_faultKind i_faultPlace i_got i_worked (nI dl) i_isPlanned u_108 u_109)), (q 51, .inl (E.2.1 0, 512, .inl a_least)), (q 55, .inl (E.2.1 0, 4, .inl (upd u_110 (Int32.toNatClampNeg 3) x_123))), (q 54, .inl (E.2.1 0, 7, .inl u_111)), (q 53, .inl (E.2.1 0, 7, .inl u_112))] := hD
    obtain ⟨f_124, ef_124⟩ : ∃ g : Nat → Int32, g = upd u_110 (Int32.toNatClampNeg 3) x_123 := ⟨_, rfl⟩
    rw [← ef_124] at hP hD
    have hI_125 : ∀ k : Nat, k < 4 → inR (f_124 k) 0 127 = true := by rw [ef_124]; exact all_upd (P := fun z => inR z 0 127 = true) hf_113 (by rw [ex_123]; exact and_lt7 _ (by omega) 3 (by decide))
    have hb3 : ∀ i : Nat, i < 4 → f_124 i = a_sets i := gback_of (u := u_110) (x := x_123) (y := nI w_118) (z := (-9)) (by decide) (by decide) ⟨gp, hSt⟩ hp3 hf_114 (ef_124.trans (by rw [show Int32.toNatClampNeg 3 = 3 from by decide])) ex_123 (ex_116.trans (by rw [show Int32.toNatClampNeg 3 = 3 from by decide])) (by decide)
    refine lv_iinc (v := 4) (lv' := [(2, .int 4), (0, .ref h0), (1, .int 3)]) hx hb dX12_give_217 hl (k := 0) rfl (by decide) (by decide) rfl (fun ls hl => ?_)
    refine lv_goto (tgt := 172) hx hb dX12_give_220 (by decide) ?_
    refine lv_iload_n hx hb dX12_give_172 rfl (lv_at hl 0 rfl) ?_
    refine lv_iconst (v := 4) hx hb dX12_give_173 (by decide) ?_
    refine lv_icmp_ge (tgt := 223) hx hb dX12_give_174 (by decide) (fun _ => ?_) (fun c9 => absurd c9 (by decide))
    refine lv_aload_n hx hb dX12_give_223 rfl (lv_at hl 1 rfl) ?_
    refine va_get (D := E.1) (ci := 12) (v := .ref (q 53)) (C := RX12) (T := TX12) (N := 59) hx hb hts inX12 hown hK hP 0 rfl rfl 53 (by decide) fl136 (fun _ h9 => h9) rfl dX12_give_224 ?_
    refine lv_iload_n hx hb dX12_give_227 rfl (lv_at hl 2 rfl) ?_
    refine lv_iconst (v := (-1)) hx hb dX12_give_228 (by decide) ?_
    refine va_iast hx hb hK hP hD hS 4 0 rfl rfl (show vp_in 3 7 from by unfold vp_in; decide) dX12_give_229 (fun H locs hP hD hS => ?_)
    have hP : va_P E.1 vwCl [(h0, .inr (12, mG q i_taped i_size i_sort i_what i_at i_end i_worth i_faultKind i_faultPlace i_got i_worked (nI dl) i_isPlanned u_108 u_109)), (q 51, .inl (E.2.1 0, 512, .inl a_least)), (q 55, .inl (E.2.1 0, 4, .inl f_124)), (q 54, .inl (E.2.1 0, 7, .inl u_111)), (q 53, .inl (E.2.1 0, 7, .inl (upd u_112 (Int32.toNatClampNeg 3) (-1))))] H := hP
    have hD : va_D A [(h0, .inr (12, mG q i_taped i_size i_sort i_what i_at i_end i_worth i_faultKind i_faultPlace i_got i_worked (nI dl) i_isPlanned u_108 u_109)), (q 51, .inl (E.2.1 0, 512, .inl a_least)), (q 55, .inl (E.2.1 0, 4, .inl f_124)), (q 54, .inl (E.2.1 0, 7, .inl u_111)), (q 53, .inl (E.2.1 0, 7, .inl (upd u_112 (Int32.toNatClampNeg 3) (-1))))] := hD
    obtain ⟨f_126, ef_126⟩ : ∃ g : Nat → Int32, g = upd u_112 (Int32.toNatClampNeg 3) (-1) := ⟨_, rfl⟩
    rw [← ef_126] at hP hD
    refine lv_aload_n hx hb dX12_give_230 rfl (lv_at hl 1 rfl) ?_
    refine lv_iload_n hx hb dX12_give_231 rfl (lv_at hl 2 rfl) ?_
    refine lv_iconst (v := 1) hx hb dX12_give_232 (by decide) ?_
    refine lv_iadd hx hb dX12_give_233 ?_
    refine lv_topi (fun x_127 ex_127 => ?_)
    obtain rfl : x_127 = 4 := ex_127.trans (by decide +kernel)
    have hv4 : ∀ k : Nat, k < 3 + 1 → f_126 k = gI (pg gp 3 4 k) := gv_put (cur := u_112) (gv_cur (gv_cur (gv_cur (gv_cur (fun k hk => rfl) (ef_2.trans (by rw [show Int32.toNatClampNeg 3 = 3 from by decide])) hf_22) (ef_33.trans (by rw [show Int32.toNatClampNeg 3 = 3 from by decide])) hf_53) (ef_64.trans (by rw [show Int32.toNatClampNeg 3 = 3 from by decide])) hf_84) (ef_95.trans (by rw [show Int32.toNatClampNeg 3 = 3 from by decide])) hf_115) hGv (ef_126.trans (by rw [show Int32.toNatClampNeg 3 = 3 from by decide])) (by decide)
    have hPc := hP.sub (ws' := [(h0, .inr (12, mG q i_taped i_size i_sort i_what i_at i_end i_worth i_faultKind i_faultPlace i_got i_worked (nI dl) i_isPlanned u_108 u_109)), (q 51, .inl (E.2.1 0, 512, .inl a_least)), (q 55, .inl (E.2.1 0, 4, .inl f_124)), (q 54, .inl (E.2.1 0, 7, .inl u_111)), (q 53, .inl (E.2.1 0, 7, .inl f_126))]) [0, 1, 2, 3, 4] rfl
    have hDc := hD.sub (ws' := [(h0, .inr (12, mG q i_taped i_size i_sort i_what i_at i_end i_worth i_faultKind i_faultPlace i_got i_worked (nI dl) i_isPlanned u_108 u_109)), (q 51, .inl (E.2.1 0, 512, .inl a_least)), (q 55, .inl (E.2.1 0, 4, .inl f_124)), (q 54, .inl (E.2.1 0, 7, .inl u_111)), (q 53, .inl (E.2.1 0, 7, .inl f_126))]) [0, 1, 2, 3, 4] (by decide) rfl
    have hFc := va_free (wc := [(h0, .inr (12, mG q i_taped i_size i_sort i_what i_at i_end i_worth i_faultKind i_faultPlace i_got i_worked (nI dl) i_isPlanned u_108 u_109)), (q 51, .inl (E.2.1 0, 512, .inl a_least)), (q 55, .inl (E.2.1 0, 4, .inl f_124)), (q 54, .inl (E.2.1 0, 7, .inl u_111)), (q 53, .inl (E.2.1 0, 7, .inl f_126))]) hD hS hA [0, 1, 2, 3, 4] rfl
    refine va_callv (va_runV (As := [.int 4]) (rest := []) ⟨hx, hb, hml, hown, hts⟩ (c_X12_give4 l E h0 q i_taped i_size i_sort i_what i_at i_end i_worth i_faultKind i_faultPlace i_got i_worked i_isPlanned u_108 u_109 dl FF CC (pg gp 3 4) a_least f_124 u_111 f_126 H.size hdl hd2 (pg_le hp (by decide)) (st_none hSt hb3) hv4 (BG_M M_s hw_107) hKm hCb hI_125) (cwV 1 hts gX12_give_X12_give rfl rfl rfl hdV_X12_give ⟨Nat.le_of_ble_eq_true rfl, Nat.le_of_ble_eq_true rfl⟩) ⟨pcW_blind, va_recv hK hPc (ci := 12) (q0 := 0) rfl rfl, (pcW_pre hPc hkn hDc hst hS hFc)⟩ rfl rfl hl.1 rfl (lv_room (Nat.le_of_ble_eq_true rfl)) dX12_give_234 ⟨Nat.le_of_ble_eq_true rfl, Nat.le_of_ble_eq_true rfl⟩) hS (fun q _ h => hFc q h) hFc (fun u t H1 locs ht hvm hw_129 hB hz1 hk1 hS => ?_)
    obtain ⟨u_130, u_131, u_132, u_133, u_134⟩ := u
    obtain ⟨hf_135, hf_136, hf_137, hP1, hD1⟩ := hB
    rw [ht] at hP1
    try dsimp only at hw_129
    obtain ⟨hP, hD⟩ := va_join (wr := []) (w1 := [(h0, .inr (12, mG q i_taped i_size i_sort i_what i_at i_end i_worth i_faultKind i_faultPlace i_got i_worked (nI dl) i_isPlanned u_130 u_131)), (q 51, .inl (E.2.1 0, 512, .inl a_least)), (q 55, .inl (E.2.1 0, 4, .inl u_132)), (q 54, .inl (E.2.1 0, 7, .inl u_133)), (q 53, .inl (E.2.1 0, 7, .inl u_134))]) hP hD [0, 1, 2, 3, 4] [] rfl rfl (by decide) (by decide) hk1 hFc hP1 hD1
    generalize H1 = H at hP hS ⊢
    have hP : va_P E.1 vwCl [(h0, .inr (12, mG q i_taped i_size i_sort i_what i_at i_end i_worth i_faultKind i_faultPlace i_got i_worked (nI dl) i_isPlanned u_130 u_131)), (q 51, .inl (E.2.1 0, 512, .inl a_least)), (q 55, .inl (E.2.1 0, 4, .inl u_132)), (q 54, .inl (E.2.1 0, 7, .inl u_133)), (q 53, .inl (E.2.1 0, 7, .inl u_134))] H := hP
    have hD : va_D A [(h0, .inr (12, mG q i_taped i_size i_sort i_what i_at i_end i_worth i_faultKind i_faultPlace i_got i_worked (nI dl) i_isPlanned u_130 u_131)), (q 51, .inl (E.2.1 0, 512, .inl a_least)), (q 55, .inl (E.2.1 0, 4, .inl u_132)), (q 54, .inl (E.2.1 0, 7, .inl u_133)), (q 53, .inl (E.2.1 0, 7, .inl u_134))] := hD
    have hP9 := hP.sub (ws' := [(h0, .inr (12, mG q i_taped i_size i_sort i_what i_at i_end i_worth i_faultKind i_faultPlace i_got i_worked (nI dl) i_isPlanned u_130 u_131)), (q 51, .inl (E.2.1 0, 512, .inl a_least)), (q 55, .inl (E.2.1 0, 4, .inl u_132)), (q 54, .inl (E.2.1 0, 7, .inl u_133)), (q 53, .inl (E.2.1 0, 7, .inl u_134))]) [0, 1, 2, 3, 4] rfl
    have hD9 := hD.sub (ws' := [(h0, .inr (12, mG q i_taped i_size i_sort i_what i_at i_end i_worth i_faultKind i_faultPlace i_got i_worked (nI dl) i_isPlanned u_130 u_131)), (q 51, .inl (E.2.1 0, 512, .inl a_least)), (q 55, .inl (E.2.1 0, 4, .inl u_132)), (q 54, .inl (E.2.1 0, 7, .inl u_133)), (q 53, .inl (E.2.1 0, 7, .inl u_134))]) [0, 1, 2, 3, 4] (by decide) rfl
    exact W.vret hx hb hr (fun t ht hW => ⟨⟨(u_130, u_131, u_132, u_133, u_134), rfl, (BG_M (M_5 hd2) hw_129), hf_135, (fun i hi => (hf_136 i hi).trans (hb3 i hi)), (gv_cur (gv_cur (gv_cur (gv_cur (gv_cur (fun k hk => rfl) (ef_2.trans (by rw [show Int32.toNatClampNeg 3 = 3 from by decide])) hf_22) (ef_33.trans (by rw [show Int32.toNatClampNeg 3 = 3 from by decide])) hf_53) (ef_64.trans (by rw [show Int32.toNatClampNeg 3 = 3 from by decide])) hf_84) (ef_95.trans (by rw [show Int32.toNatClampNeg 3 = 3 from by decide])) hf_115) (ef_126.trans (by rw [show Int32.toNatClampNeg 3 = 3 from by decide])) hf_137), by rw [ht]; exact hP9, hD9⟩, hS.F ht⟩) hS.2.2 dX12_give_237
  · have hn9 : dl = 3 := ((nI_eq (a := 3) (by decide) (by omega)).mp c_1).symm
    have hB9 := BG_pre hn9 hBG
    have hp9 : ∀ k : Nat, k < dl → gp k ≤ 4 := fun k hk => hp k (by omega)
    refine lv_iconst (v := 0) hx hb dX12_give_8 (by decide) ?_
    refine lv_istore_n (lv' := [(2, .int 0), (0, .ref h0), (1, .int 3)]) hx hb dX12_give_9 rfl hl (by decide) rfl (fun ls hl => ?_)
    refine lv_iconst (v := 0) hx hb dX12_give_10 (by decide) ?_
    refine lv_istore_n (lv' := [(3, .int 0), (2, .int 0), (0, .ref h0), (1, .int 3)]) hx hb dX12_give_11 rfl hl (by decide) rfl (fun ls hl => ?_)
    refine lv_iconst (v := 0) hx hb dX12_give_12 (by decide) ?_
    refine lv_istore (lv' := [(4, .int 0), (3, .int 0), (2, .int 0), (0, .ref h0), (1, .int 3)]) hx hb dX12_give_13 hl (by decide) rfl (fun ls hl => ?_)
    refine lv_iload hx hb dX12_give_15 (lv_at hl 0 rfl) ?_
    refine lv_iconst (v := 4) hx hb dX12_give_17 (by decide) ?_
    refine lv_icmp_ge (tgt := 102) hx hb dX12_give_18 (by decide) (fun c9 => absurd c9 (by decide)) (fun _ => ?_)
    refine lv_aload_n hx hb dX12_give_21 rfl (lv_at hl 3 rfl) ?_
    refine va_get (D := E.1) (ci := 12) (v := .ref (q 51)) (C := RX12) (T := TX12) (N := 59) hx hb hts inX12 hown hK hP 0 rfl rfl 51 (by decide) fl130 (fun _ h9 => h9) rfl dX12_give_22 ?_
    refine lv_sipush (v := 128) hx hb dX12_give_25 (by decide) ?_
    refine lv_iload hx hb dX12_give_28 (lv_at hl 0 rfl) ?_
    refine lv_imul hx hb dX12_give_30 ?_
    refine lv_topi (fun x_138 ex_138 => ?_)
    obtain rfl : x_138 = 0 := ex_138.trans (by decide +kernel)
    refine lv_aload_n hx hb dX12_give_31 rfl (lv_at hl 3 rfl) ?_
    refine va_get (D := E.1) (ci := 12) (v := .ref (q 55)) (C := RX12) (T := TX12) (N := 59) hx hb hts inX12 hown hK hP 0 rfl rfl 55 (by decide) fl142 (fun _ h9 => h9) rfl dX12_give_32 ?_
    refine lv_iload hx hb dX12_give_35 (lv_at hl 0 rfl) ?_
    refine va_iald hx hb hK hP 2 0 rfl rfl (show vp_in 0 4 from by unfold vp_in; decide) dX12_give_37 ?_
    refine lv_topi (fun x_139 ex_139 => ?_)
    have hv_140 : inR x_139 0 127 = true := by rw [ex_139]; exact hI_sets _ (vin_cl (show vp_in 0 4 from by unfold vp_in; decide))
    obtain ⟨w_141, hw_142, ew_143⟩ := inR_nI (n := 127) (by decide) hv_140
    subst ew_143
    have hw09 : w_141 = setOf gp 0 dl := by rw [hn9]; exact nI_inj (by omega) (s128 gp 0 (by decide)) (ex_139.trans (by rw [show Int32.toNatClampNeg 0 = 0 from by decide]; exact hSt 0 (by decide)))
    refine lv_iadd hx hb dX12_give_38 ?_
    refine lv_topi (fun x_144 ex_144 => ?_)
    obtain rfl : x_144 = nI (0 + w_141) := ex_144.trans (nI_add 0 w_141)
    have hi_145 : vp_in (nI (0 + w_141)) 512 := vp_in_nI (by omega) (by decide)
    refine va_iald hx hb hK hP 1 0 rfl rfl hi_145 dX12_give_39 ?_
    refine lv_topi (fun x_146 ex_146 => ?_)
    refine lv_iconst (v := (-1)) hx hb dX12_give_40 (by decide) ?_
    refine lv_icmp_ne (tgt := 45) hx hb dX12_give_41 (by decide) (fun c_147 => ?_) (fun c_147 => ?_)
    · have hn09 : ¬ a_least (128 * 0 + w_141) = -1 := fun q9 => c_147 (ex_146.trans (by rw [nI_clamp (by omega)]; exact q9))
      have hk0 : FF 0 (setOf gp 0 dl) := by rw [← hw09]; exact (hKm 0 (by decide) w_141 (by omega)).1.mp hn09
      refine lv_iload_n hx hb dX12_give_45 rfl (lv_at hl 1 rfl) ?_
      refine lv_aload_n hx hb dX12_give_46 rfl (lv_at hl 3 rfl) ?_
      refine va_get (D := E.1) (ci := 12) (v := .ref (q 51)) (C := RX12) (T := TX12) (N := 59) hx hb hts inX12 hown hK hP 0 rfl rfl 51 (by decide) fl130 (fun _ h9 => h9) rfl dX12_give_47 ?_
      refine lv_sipush (v := 128) hx hb dX12_give_50 (by decide) ?_
      refine lv_iload hx hb dX12_give_53 (lv_at hl 0 rfl) ?_
      refine lv_imul hx hb dX12_give_55 ?_
      refine lv_topi (fun x_148 ex_148 => ?_)
      obtain rfl : x_148 = 0 := ex_148.trans (by decide +kernel)
      refine lv_aload_n hx hb dX12_give_56 rfl (lv_at hl 3 rfl) ?_
      refine va_get (D := E.1) (ci := 12) (v := .ref (q 55)) (C := RX12) (T := TX12) (N := 59) hx hb hts inX12 hown hK hP 0 rfl rfl 55 (by decide) fl142 (fun _ h9 => h9) rfl dX12_give_57 ?_
      refine lv_iload hx hb dX12_give_60 (lv_at hl 0 rfl) ?_
      refine va_iald hx hb hK hP 2 0 rfl rfl (show vp_in 0 4 from by unfold vp_in; decide) dX12_give_62 ?_
      refine lv_topi (fun x_149 ex_149 => ?_)
      obtain rfl : x_149 = nI w_141 := ex_149.trans ex_139.symm
      refine lv_iadd hx hb dX12_give_63 ?_
      refine lv_topi (fun x_150 ex_150 => ?_)
      obtain rfl : x_150 = nI (0 + w_141) := ex_150.trans (nI_add 0 w_141)
      refine va_iald hx hb hK hP 1 0 rfl rfl hi_145 dX12_give_64 ?_
      refine lv_topi (fun x_151 ex_151 => ?_)
      refine lv_iadd hx hb dX12_give_65 ?_
      refine lv_topi (fun x_152 ex_152 => ?_)
      have hc09 := cost_nx (c := 0) (c2 := 1) (co_0 CC gp dl) (x := x_151) (co2 := x_152) ((by rw [ex_151, nI_clamp (by omega)]; exact (hKm 0 (by decide) w_141 (by omega)).2 hn09 : x_151.toInt = CC 0 w_141).trans (by rw [hw09])) (hCb 0 (by decide) _ hk0) ex_152 rfl (by decide)
      refine lv_istore_n (lv' := [(3, .int x_152), (4, .int 0), (2, .int 0), (0, .ref h0), (1, .int 3)]) hx hb dX12_give_66 rfl hl (by decide) rfl (fun ls hl => ?_)
      refine lv_aload_n hx hb dX12_give_67 rfl (lv_at hl 3 rfl) ?_
      refine va_get (D := E.1) (ci := 12) (v := .ref (q 55)) (C := RX12) (T := TX12) (N := 59) hx hb hts inX12 hown hK hP 0 rfl rfl 55 (by decide) fl142 (fun _ h9 => h9) rfl dX12_give_68 ?_
      refine lv_iload hx hb dX12_give_71 (lv_at hl 1 rfl) ?_
      refine va_iald hx hb hK hP 2 0 rfl rfl (show vp_in 0 4 from by unfold vp_in; decide) dX12_give_73 ?_
      refine lv_topi (fun x_153 ex_153 => ?_)
      obtain rfl : x_153 = nI w_141 := ex_153.trans ex_139.symm
      refine lv_istore (lv' := [(5, .int (nI w_141)), (3, .int x_152), (4, .int 0), (2, .int 0), (0, .ref h0), (1, .int 3)]) hx hb dX12_give_74 hl (by decide) rfl (fun ls hl => ?_)
      have hPl := hP.sub (ws' := [(h0, .inr (12, mG q i_taped i_size i_sort i_what i_at i_end i_worth i_faultKind i_faultPlace i_got i_worked (nI dl) i_isPlanned i_bestDone i_bestCost)), (q 51, .inl (E.2.1 0, 512, .inl a_least)), (q 55, .inl (E.2.1 0, 4, .inl a_sets)), (q 54, .inl (E.2.1 0, 7, .inl a_bestGiven)), (q 53, .inl (E.2.1 0, 7, .inl a_given))]) [0, 1, 2, 3, 4] rfl
      have hDl := hD.sub (ws' := [(h0, .inr (12, mG q i_taped i_size i_sort i_what i_at i_end i_worth i_faultKind i_faultPlace i_got i_worked (nI dl) i_isPlanned i_bestDone i_bestCost)), (q 51, .inl (E.2.1 0, 512, .inl a_least)), (q 55, .inl (E.2.1 0, 4, .inl a_sets)), (q 54, .inl (E.2.1 0, 7, .inl a_bestGiven)), (q 53, .inl (E.2.1 0, 7, .inl a_given))]) [0, 1, 2, 3, 4] (by decide) rfl
      refine lm_bits E h0 q i_taped i_size i_sort i_what i_at i_end i_worth i_faultKind i_faultPlace i_got i_worked i_isPlanned i_bestDone i_bestCost dl (0 + pc7 w_141) x_152 0 ([(q 51, .inl (E.2.1 0, 512, .inl a_least)), (q 55, .inl (E.2.1 0, 4, .inl a_sets)), (q 54, .inl (E.2.1 0, 7, .inl a_bestGiven)), (q 53, .inl (E.2.1 0, 7, .inl a_given))]) hx hb hml hown hts hkn hst hA  (fun n_154 H locs ls hm hP hD hS hl => ?_) (w_141 + 1) w_141 0 _ _ _ (Nat.lt_succ_self _) (by omega) rfl hPl hDl hS (lv_sub hl [4, 3, 1, 2, 0] rfl)
      have hP : va_P E.1 vwCl [(h0, .inr (12, mG q i_taped i_size i_sort i_what i_at i_end i_worth i_faultKind i_faultPlace i_got i_worked (nI dl) i_isPlanned i_bestDone i_bestCost)), (q 51, .inl (E.2.1 0, 512, .inl a_least)), (q 55, .inl (E.2.1 0, 4, .inl a_sets)), (q 54, .inl (E.2.1 0, 7, .inl a_bestGiven)), (q 53, .inl (E.2.1 0, 7, .inl a_given))] H := hP
      have hD : va_D A [(h0, .inr (12, mG q i_taped i_size i_sort i_what i_at i_end i_worth i_faultKind i_faultPlace i_got i_worked (nI dl) i_isPlanned i_bestDone i_bestCost)), (q 51, .inl (E.2.1 0, 512, .inl a_least)), (q 55, .inl (E.2.1 0, 4, .inl a_sets)), (q 54, .inl (E.2.1 0, 7, .inl a_bestGiven)), (q 53, .inl (E.2.1 0, 7, .inl a_given))] := hD
      have hm0 := hm
      refine lv_iinc (v := 1) (lv' := [(4, .int 1), (0, .ref h0), (2, .int (nI n_154)), (3, .int x_152)]) hx hb dX12_give_96 hl (k := 3) rfl (by decide) (by decide) rfl (fun ls hl => ?_)
      refine lv_goto (tgt := 15) hx hb dX12_give_99 (by decide) ?_
      refine lv_iload hx hb dX12_give_15 (lv_at hl 0 rfl) ?_
      refine lv_iconst (v := 4) hx hb dX12_give_17 (by decide) ?_
      refine lv_icmp_ge (tgt := 102) hx hb dX12_give_18 (by decide) (fun c9 => absurd c9 (by decide)) (fun _ => ?_)
      refine lv_aload_n hx hb dX12_give_21 rfl (lv_at hl 1 rfl) ?_
      refine va_get (D := E.1) (ci := 12) (v := .ref (q 51)) (C := RX12) (T := TX12) (N := 59) hx hb hts inX12 hown hK hP 0 rfl rfl 51 (by decide) fl130 (fun _ h9 => h9) rfl dX12_give_22 ?_
      refine lv_sipush (v := 128) hx hb dX12_give_25 (by decide) ?_
      refine lv_iload hx hb dX12_give_28 (lv_at hl 0 rfl) ?_
      refine lv_imul hx hb dX12_give_30 ?_
      refine lv_topi (fun x_155 ex_155 => ?_)
      obtain rfl : x_155 = 128 := ex_155.trans (by decide +kernel)
      refine lv_aload_n hx hb dX12_give_31 rfl (lv_at hl 1 rfl) ?_
      refine va_get (D := E.1) (ci := 12) (v := .ref (q 55)) (C := RX12) (T := TX12) (N := 59) hx hb hts inX12 hown hK hP 0 rfl rfl 55 (by decide) fl142 (fun _ h9 => h9) rfl dX12_give_32 ?_
      refine lv_iload hx hb dX12_give_35 (lv_at hl 0 rfl) ?_
      refine va_iald hx hb hK hP 2 0 rfl rfl (show vp_in 1 4 from by unfold vp_in; decide) dX12_give_37 ?_
      refine lv_topi (fun x_156 ex_156 => ?_)
      have hv_157 : inR x_156 0 127 = true := by rw [ex_156]; exact hI_sets _ (vin_cl (show vp_in 1 4 from by unfold vp_in; decide))
      obtain ⟨w_158, hw_159, ew_160⟩ := inR_nI (n := 127) (by decide) hv_157
      subst ew_160
      have hw19 : w_158 = setOf gp 1 dl := by rw [hn9]; exact nI_inj (by omega) (s128 gp 1 (by decide)) (ex_156.trans (by rw [show Int32.toNatClampNeg 1 = 1 from by decide]; exact hSt 1 (by decide)))
      refine lv_iadd hx hb dX12_give_38 ?_
      refine lv_topi (fun x_161 ex_161 => ?_)
      obtain rfl : x_161 = nI (128 + w_158) := ex_161.trans (nI_add 128 w_158)
      have hi_162 : vp_in (nI (128 + w_158)) 512 := vp_in_nI (by omega) (by decide)
      refine va_iald hx hb hK hP 1 0 rfl rfl hi_162 dX12_give_39 ?_
      refine lv_topi (fun x_163 ex_163 => ?_)
      refine lv_iconst (v := (-1)) hx hb dX12_give_40 (by decide) ?_
      refine lv_icmp_ne (tgt := 45) hx hb dX12_give_41 (by decide) (fun c_164 => ?_) (fun c_164 => ?_)
      · have hn19 : ¬ a_least (128 * 1 + w_158) = -1 := fun q9 => c_164 (ex_163.trans (by rw [nI_clamp (by omega)]; exact q9))
        have hk1 : FF 1 (setOf gp 1 dl) := by rw [← hw19]; exact (hKm 1 (by decide) w_158 (by omega)).1.mp hn19
        refine lv_iload_n hx hb dX12_give_45 rfl (lv_at hl 3 rfl) ?_
        refine lv_aload_n hx hb dX12_give_46 rfl (lv_at hl 1 rfl) ?_
        refine va_get (D := E.1) (ci := 12) (v := .ref (q 51)) (C := RX12) (T := TX12) (N := 59) hx hb hts inX12 hown hK hP 0 rfl rfl 51 (by decide) fl130 (fun _ h9 => h9) rfl dX12_give_47 ?_
        refine lv_sipush (v := 128) hx hb dX12_give_50 (by decide) ?_
        refine lv_iload hx hb dX12_give_53 (lv_at hl 0 rfl) ?_
        refine lv_imul hx hb dX12_give_55 ?_
        refine lv_topi (fun x_165 ex_165 => ?_)
        obtain rfl : x_165 = 128 := ex_165.trans (by decide +kernel)
        refine lv_aload_n hx hb dX12_give_56 rfl (lv_at hl 1 rfl) ?_
        refine va_get (D := E.1) (ci := 12) (v := .ref (q 55)) (C := RX12) (T := TX12) (N := 59) hx hb hts inX12 hown hK hP 0 rfl rfl 55 (by decide) fl142 (fun _ h9 => h9) rfl dX12_give_57 ?_
        refine lv_iload hx hb dX12_give_60 (lv_at hl 0 rfl) ?_
        refine va_iald hx hb hK hP 2 0 rfl rfl (show vp_in 1 4 from by unfold vp_in; decide) dX12_give_62 ?_
        refine lv_topi (fun x_166 ex_166 => ?_)
        obtain rfl : x_166 = nI w_158 := ex_166.trans ex_156.symm
        refine lv_iadd hx hb dX12_give_63 ?_
        refine lv_topi (fun x_167 ex_167 => ?_)
        obtain rfl : x_167 = nI (128 + w_158) := ex_167.trans (nI_add 128 w_158)
        refine va_iald hx hb hK hP 1 0 rfl rfl hi_162 dX12_give_64 ?_
        refine lv_topi (fun x_168 ex_168 => ?_)
        refine lv_iadd hx hb dX12_give_65 ?_
        refine lv_topi (fun x_169 ex_169 => ?_)
        have hc19 := cost_nx (c := 1) (c2 := 2) hc09 (x := x_168) (co2 := x_169) ((by rw [ex_168, nI_clamp (by omega)]; exact (hKm 1 (by decide) w_158 (by omega)).2 hn19 : x_168.toInt = CC 1 w_158).trans (by rw [hw19])) (hCb 1 (by decide) _ hk1) ex_169 rfl (by decide)
        refine lv_istore_n (lv' := [(3, .int x_169), (4, .int 1), (0, .ref h0), (2, .int (nI n_154))]) hx hb dX12_give_66 rfl hl (by decide) rfl (fun ls hl => ?_)
        refine lv_aload_n hx hb dX12_give_67 rfl (lv_at hl 2 rfl) ?_
        refine va_get (D := E.1) (ci := 12) (v := .ref (q 55)) (C := RX12) (T := TX12) (N := 59) hx hb hts inX12 hown hK hP 0 rfl rfl 55 (by decide) fl142 (fun _ h9 => h9) rfl dX12_give_68 ?_
        refine lv_iload hx hb dX12_give_71 (lv_at hl 1 rfl) ?_
        refine va_iald hx hb hK hP 2 0 rfl rfl (show vp_in 1 4 from by unfold vp_in; decide) dX12_give_73 ?_
        refine lv_topi (fun x_170 ex_170 => ?_)
        obtain rfl : x_170 = nI w_158 := ex_170.trans ex_156.symm
        refine lv_istore (lv' := [(5, .int (nI w_158)), (3, .int x_169), (4, .int 1), (0, .ref h0), (2, .int (nI n_154))]) hx hb dX12_give_74 hl (by decide) rfl (fun ls hl => ?_)
        have hPl := hP.sub (ws' := [(h0, .inr (12, mG q i_taped i_size i_sort i_what i_at i_end i_worth i_faultKind i_faultPlace i_got i_worked (nI dl) i_isPlanned i_bestDone i_bestCost)), (q 51, .inl (E.2.1 0, 512, .inl a_least)), (q 55, .inl (E.2.1 0, 4, .inl a_sets)), (q 54, .inl (E.2.1 0, 7, .inl a_bestGiven)), (q 53, .inl (E.2.1 0, 7, .inl a_given))]) [0, 1, 2, 3, 4] rfl
        have hDl := hD.sub (ws' := [(h0, .inr (12, mG q i_taped i_size i_sort i_what i_at i_end i_worth i_faultKind i_faultPlace i_got i_worked (nI dl) i_isPlanned i_bestDone i_bestCost)), (q 51, .inl (E.2.1 0, 512, .inl a_least)), (q 55, .inl (E.2.1 0, 4, .inl a_sets)), (q 54, .inl (E.2.1 0, 7, .inl a_bestGiven)), (q 53, .inl (E.2.1 0, 7, .inl a_given))]) [0, 1, 2, 3, 4] (by decide) rfl
        refine lm_bits E h0 q i_taped i_size i_sort i_what i_at i_end i_worth i_faultKind i_faultPlace i_got i_worked i_isPlanned i_bestDone i_bestCost dl (n_154 + pc7 w_158) x_169 1 ([(q 51, .inl (E.2.1 0, 512, .inl a_least)), (q 55, .inl (E.2.1 0, 4, .inl a_sets)), (q 54, .inl (E.2.1 0, 7, .inl a_bestGiven)), (q 53, .inl (E.2.1 0, 7, .inl a_given))]) hx hb hml hown hts hkn hst hA  (fun n_171 H locs ls hm hP hD hS hl => ?_) (w_158 + 1) w_158 n_154 _ _ _ (Nat.lt_succ_self _) (by omega) rfl hPl hDl hS (lv_sub hl [3, 4, 1, 2, 0] rfl)
        have hP : va_P E.1 vwCl [(h0, .inr (12, mG q i_taped i_size i_sort i_what i_at i_end i_worth i_faultKind i_faultPlace i_got i_worked (nI dl) i_isPlanned i_bestDone i_bestCost)), (q 51, .inl (E.2.1 0, 512, .inl a_least)), (q 55, .inl (E.2.1 0, 4, .inl a_sets)), (q 54, .inl (E.2.1 0, 7, .inl a_bestGiven)), (q 53, .inl (E.2.1 0, 7, .inl a_given))] H := hP
        have hD : va_D A [(h0, .inr (12, mG q i_taped i_size i_sort i_what i_at i_end i_worth i_faultKind i_faultPlace i_got i_worked (nI dl) i_isPlanned i_bestDone i_bestCost)), (q 51, .inl (E.2.1 0, 512, .inl a_least)), (q 55, .inl (E.2.1 0, 4, .inl a_sets)), (q 54, .inl (E.2.1 0, 7, .inl a_bestGiven)), (q 53, .inl (E.2.1 0, 7, .inl a_given))] := hD
        have hm1 := hm
        refine lv_iinc (v := 2) (lv' := [(4, .int 2), (0, .ref h0), (2, .int (nI n_171)), (3, .int x_169)]) hx hb dX12_give_96 hl (k := 3) rfl (by decide) (by decide) rfl (fun ls hl => ?_)
        refine lv_goto (tgt := 15) hx hb dX12_give_99 (by decide) ?_
        refine lv_iload hx hb dX12_give_15 (lv_at hl 0 rfl) ?_
        refine lv_iconst (v := 4) hx hb dX12_give_17 (by decide) ?_
        refine lv_icmp_ge (tgt := 102) hx hb dX12_give_18 (by decide) (fun c9 => absurd c9 (by decide)) (fun _ => ?_)
        refine lv_aload_n hx hb dX12_give_21 rfl (lv_at hl 1 rfl) ?_
        refine va_get (D := E.1) (ci := 12) (v := .ref (q 51)) (C := RX12) (T := TX12) (N := 59) hx hb hts inX12 hown hK hP 0 rfl rfl 51 (by decide) fl130 (fun _ h9 => h9) rfl dX12_give_22 ?_
        refine lv_sipush (v := 128) hx hb dX12_give_25 (by decide) ?_
        refine lv_iload hx hb dX12_give_28 (lv_at hl 0 rfl) ?_
        refine lv_imul hx hb dX12_give_30 ?_
        refine lv_topi (fun x_172 ex_172 => ?_)
        obtain rfl : x_172 = 256 := ex_172.trans (by decide +kernel)
        refine lv_aload_n hx hb dX12_give_31 rfl (lv_at hl 1 rfl) ?_
        refine va_get (D := E.1) (ci := 12) (v := .ref (q 55)) (C := RX12) (T := TX12) (N := 59) hx hb hts inX12 hown hK hP 0 rfl rfl 55 (by decide) fl142 (fun _ h9 => h9) rfl dX12_give_32 ?_
        refine lv_iload hx hb dX12_give_35 (lv_at hl 0 rfl) ?_
        refine va_iald hx hb hK hP 2 0 rfl rfl (show vp_in 2 4 from by unfold vp_in; decide) dX12_give_37 ?_
        refine lv_topi (fun x_173 ex_173 => ?_)
        have hv_174 : inR x_173 0 127 = true := by rw [ex_173]; exact hI_sets _ (vin_cl (show vp_in 2 4 from by unfold vp_in; decide))
        obtain ⟨w_175, hw_176, ew_177⟩ := inR_nI (n := 127) (by decide) hv_174
        subst ew_177
        have hw29 : w_175 = setOf gp 2 dl := by rw [hn9]; exact nI_inj (by omega) (s128 gp 2 (by decide)) (ex_173.trans (by rw [show Int32.toNatClampNeg 2 = 2 from by decide]; exact hSt 2 (by decide)))
        refine lv_iadd hx hb dX12_give_38 ?_
        refine lv_topi (fun x_178 ex_178 => ?_)
        obtain rfl : x_178 = nI (256 + w_175) := ex_178.trans (nI_add 256 w_175)
        have hi_179 : vp_in (nI (256 + w_175)) 512 := vp_in_nI (by omega) (by decide)
        refine va_iald hx hb hK hP 1 0 rfl rfl hi_179 dX12_give_39 ?_
        refine lv_topi (fun x_180 ex_180 => ?_)
        refine lv_iconst (v := (-1)) hx hb dX12_give_40 (by decide) ?_
        refine lv_icmp_ne (tgt := 45) hx hb dX12_give_41 (by decide) (fun c_181 => ?_) (fun c_181 => ?_)
        · have hn29 : ¬ a_least (128 * 2 + w_175) = -1 := fun q9 => c_181 (ex_180.trans (by rw [nI_clamp (by omega)]; exact q9))
          have hk2 : FF 2 (setOf gp 2 dl) := by rw [← hw29]; exact (hKm 2 (by decide) w_175 (by omega)).1.mp hn29
          refine lv_iload_n hx hb dX12_give_45 rfl (lv_at hl 3 rfl) ?_
          refine lv_aload_n hx hb dX12_give_46 rfl (lv_at hl 1 rfl) ?_
          refine va_get (D := E.1) (ci := 12) (v := .ref (q 51)) (C := RX12) (T := TX12) (N := 59) hx hb hts inX12 hown hK hP 0 rfl rfl 51 (by decide) fl130 (fun _ h9 => h9) rfl dX12_give_47 ?_
          refine lv_sipush (v := 128) hx hb dX12_give_50 (by decide) ?_
          refine lv_iload hx hb dX12_give_53 (lv_at hl 0 rfl) ?_
          refine lv_imul hx hb dX12_give_55 ?_
          refine lv_topi (fun x_182 ex_182 => ?_)
          obtain rfl : x_182 = 256 := ex_182.trans (by decide +kernel)
          refine lv_aload_n hx hb dX12_give_56 rfl (lv_at hl 1 rfl) ?_
          refine va_get (D := E.1) (ci := 12) (v := .ref (q 55)) (C := RX12) (T := TX12) (N := 59) hx hb hts inX12 hown hK hP 0 rfl rfl 55 (by decide) fl142 (fun _ h9 => h9) rfl dX12_give_57 ?_
          refine lv_iload hx hb dX12_give_60 (lv_at hl 0 rfl) ?_
          refine va_iald hx hb hK hP 2 0 rfl rfl (show vp_in 2 4 from by unfold vp_in; decide) dX12_give_62 ?_
          refine lv_topi (fun x_183 ex_183 => ?_)
          obtain rfl : x_183 = nI w_175 := ex_183.trans ex_173.symm
          refine lv_iadd hx hb dX12_give_63 ?_
          refine lv_topi (fun x_184 ex_184 => ?_)
          obtain rfl : x_184 = nI (256 + w_175) := ex_184.trans (nI_add 256 w_175)
          refine va_iald hx hb hK hP 1 0 rfl rfl hi_179 dX12_give_64 ?_
          refine lv_topi (fun x_185 ex_185 => ?_)
          refine lv_iadd hx hb dX12_give_65 ?_
          refine lv_topi (fun x_186 ex_186 => ?_)
          have hc29 := cost_nx (c := 2) (c2 := 3) hc19 (x := x_185) (co2 := x_186) ((by rw [ex_185, nI_clamp (by omega)]; exact (hKm 2 (by decide) w_175 (by omega)).2 hn29 : x_185.toInt = CC 2 w_175).trans (by rw [hw29])) (hCb 2 (by decide) _ hk2) ex_186 rfl (by decide)
          refine lv_istore_n (lv' := [(3, .int x_186), (4, .int 2), (0, .ref h0), (2, .int (nI n_171))]) hx hb dX12_give_66 rfl hl (by decide) rfl (fun ls hl => ?_)
          refine lv_aload_n hx hb dX12_give_67 rfl (lv_at hl 2 rfl) ?_
          refine va_get (D := E.1) (ci := 12) (v := .ref (q 55)) (C := RX12) (T := TX12) (N := 59) hx hb hts inX12 hown hK hP 0 rfl rfl 55 (by decide) fl142 (fun _ h9 => h9) rfl dX12_give_68 ?_
          refine lv_iload hx hb dX12_give_71 (lv_at hl 1 rfl) ?_
          refine va_iald hx hb hK hP 2 0 rfl rfl (show vp_in 2 4 from by unfold vp_in; decide) dX12_give_73 ?_
          refine lv_topi (fun x_187 ex_187 => ?_)
          obtain rfl : x_187 = nI w_175 := ex_187.trans ex_173.symm
          refine lv_istore (lv' := [(5, .int (nI w_175)), (3, .int x_186), (4, .int 2), (0, .ref h0), (2, .int (nI n_171))]) hx hb dX12_give_74 hl (by decide) rfl (fun ls hl => ?_)
          have hPl := hP.sub (ws' := [(h0, .inr (12, mG q i_taped i_size i_sort i_what i_at i_end i_worth i_faultKind i_faultPlace i_got i_worked (nI dl) i_isPlanned i_bestDone i_bestCost)), (q 51, .inl (E.2.1 0, 512, .inl a_least)), (q 55, .inl (E.2.1 0, 4, .inl a_sets)), (q 54, .inl (E.2.1 0, 7, .inl a_bestGiven)), (q 53, .inl (E.2.1 0, 7, .inl a_given))]) [0, 1, 2, 3, 4] rfl
          have hDl := hD.sub (ws' := [(h0, .inr (12, mG q i_taped i_size i_sort i_what i_at i_end i_worth i_faultKind i_faultPlace i_got i_worked (nI dl) i_isPlanned i_bestDone i_bestCost)), (q 51, .inl (E.2.1 0, 512, .inl a_least)), (q 55, .inl (E.2.1 0, 4, .inl a_sets)), (q 54, .inl (E.2.1 0, 7, .inl a_bestGiven)), (q 53, .inl (E.2.1 0, 7, .inl a_given))]) [0, 1, 2, 3, 4] (by decide) rfl
          refine lm_bits E h0 q i_taped i_size i_sort i_what i_at i_end i_worth i_faultKind i_faultPlace i_got i_worked i_isPlanned i_bestDone i_bestCost dl (n_171 + pc7 w_175) x_186 2 ([(q 51, .inl (E.2.1 0, 512, .inl a_least)), (q 55, .inl (E.2.1 0, 4, .inl a_sets)), (q 54, .inl (E.2.1 0, 7, .inl a_bestGiven)), (q 53, .inl (E.2.1 0, 7, .inl a_given))]) hx hb hml hown hts hkn hst hA  (fun n_188 H locs ls hm hP hD hS hl => ?_) (w_175 + 1) w_175 n_171 _ _ _ (Nat.lt_succ_self _) (by omega) rfl hPl hDl hS (lv_sub hl [3, 4, 1, 2, 0] rfl)
          have hP : va_P E.1 vwCl [(h0, .inr (12, mG q i_taped i_size i_sort i_what i_at i_end i_worth i_faultKind i_faultPlace i_got i_worked (nI dl) i_isPlanned i_bestDone i_bestCost)), (q 51, .inl (E.2.1 0, 512, .inl a_least)), (q 55, .inl (E.2.1 0, 4, .inl a_sets)), (q 54, .inl (E.2.1 0, 7, .inl a_bestGiven)), (q 53, .inl (E.2.1 0, 7, .inl a_given))] H := hP
          have hD : va_D A [(h0, .inr (12, mG q i_taped i_size i_sort i_what i_at i_end i_worth i_faultKind i_faultPlace i_got i_worked (nI dl) i_isPlanned i_bestDone i_bestCost)), (q 51, .inl (E.2.1 0, 512, .inl a_least)), (q 55, .inl (E.2.1 0, 4, .inl a_sets)), (q 54, .inl (E.2.1 0, 7, .inl a_bestGiven)), (q 53, .inl (E.2.1 0, 7, .inl a_given))] := hD
          have hm2 := hm
          refine lv_iinc (v := 3) (lv' := [(4, .int 3), (0, .ref h0), (2, .int (nI n_188)), (3, .int x_186)]) hx hb dX12_give_96 hl (k := 3) rfl (by decide) (by decide) rfl (fun ls hl => ?_)
          refine lv_goto (tgt := 15) hx hb dX12_give_99 (by decide) ?_
          refine lv_iload hx hb dX12_give_15 (lv_at hl 0 rfl) ?_
          refine lv_iconst (v := 4) hx hb dX12_give_17 (by decide) ?_
          refine lv_icmp_ge (tgt := 102) hx hb dX12_give_18 (by decide) (fun c9 => absurd c9 (by decide)) (fun _ => ?_)
          refine lv_aload_n hx hb dX12_give_21 rfl (lv_at hl 1 rfl) ?_
          refine va_get (D := E.1) (ci := 12) (v := .ref (q 51)) (C := RX12) (T := TX12) (N := 59) hx hb hts inX12 hown hK hP 0 rfl rfl 51 (by decide) fl130 (fun _ h9 => h9) rfl dX12_give_22 ?_
          refine lv_sipush (v := 128) hx hb dX12_give_25 (by decide) ?_
          refine lv_iload hx hb dX12_give_28 (lv_at hl 0 rfl) ?_
          refine lv_imul hx hb dX12_give_30 ?_
          refine lv_topi (fun x_189 ex_189 => ?_)
          obtain rfl : x_189 = 384 := ex_189.trans (by decide +kernel)
          refine lv_aload_n hx hb dX12_give_31 rfl (lv_at hl 1 rfl) ?_
          refine va_get (D := E.1) (ci := 12) (v := .ref (q 55)) (C := RX12) (T := TX12) (N := 59) hx hb hts inX12 hown hK hP 0 rfl rfl 55 (by decide) fl142 (fun _ h9 => h9) rfl dX12_give_32 ?_
          refine lv_iload hx hb dX12_give_35 (lv_at hl 0 rfl) ?_
          refine va_iald hx hb hK hP 2 0 rfl rfl (show vp_in 3 4 from by unfold vp_in; decide) dX12_give_37 ?_
          refine lv_topi (fun x_190 ex_190 => ?_)
          have hv_191 : inR x_190 0 127 = true := by rw [ex_190]; exact hI_sets _ (vin_cl (show vp_in 3 4 from by unfold vp_in; decide))
          obtain ⟨w_192, hw_193, ew_194⟩ := inR_nI (n := 127) (by decide) hv_191
          subst ew_194
          have hw39 : w_192 = setOf gp 3 dl := by rw [hn9]; exact nI_inj (by omega) (s128 gp 3 (by decide)) (ex_190.trans (by rw [show Int32.toNatClampNeg 3 = 3 from by decide]; exact hSt 3 (by decide)))
          refine lv_iadd hx hb dX12_give_38 ?_
          refine lv_topi (fun x_195 ex_195 => ?_)
          obtain rfl : x_195 = nI (384 + w_192) := ex_195.trans (nI_add 384 w_192)
          have hi_196 : vp_in (nI (384 + w_192)) 512 := vp_in_nI (by omega) (by decide)
          refine va_iald hx hb hK hP 1 0 rfl rfl hi_196 dX12_give_39 ?_
          refine lv_topi (fun x_197 ex_197 => ?_)
          refine lv_iconst (v := (-1)) hx hb dX12_give_40 (by decide) ?_
          refine lv_icmp_ne (tgt := 45) hx hb dX12_give_41 (by decide) (fun c_198 => ?_) (fun c_198 => ?_)
          · have hn39 : ¬ a_least (128 * 3 + w_192) = -1 := fun q9 => c_198 (ex_197.trans (by rw [nI_clamp (by omega)]; exact q9))
            have hk3 : FF 3 (setOf gp 3 dl) := by rw [← hw39]; exact (hKm 3 (by decide) w_192 (by omega)).1.mp hn39
            refine lv_iload_n hx hb dX12_give_45 rfl (lv_at hl 3 rfl) ?_
            refine lv_aload_n hx hb dX12_give_46 rfl (lv_at hl 1 rfl) ?_
            refine va_get (D := E.1) (ci := 12) (v := .ref (q 51)) (C := RX12) (T := TX12) (N := 59) hx hb hts inX12 hown hK hP 0 rfl rfl 51 (by decide) fl130 (fun _ h9 => h9) rfl dX12_give_47 ?_
            refine lv_sipush (v := 128) hx hb dX12_give_50 (by decide) ?_
            refine lv_iload hx hb dX12_give_53 (lv_at hl 0 rfl) ?_
            refine lv_imul hx hb dX12_give_55 ?_
            refine lv_topi (fun x_199 ex_199 => ?_)
            obtain rfl : x_199 = 384 := ex_199.trans (by decide +kernel)
            refine lv_aload_n hx hb dX12_give_56 rfl (lv_at hl 1 rfl) ?_
            refine va_get (D := E.1) (ci := 12) (v := .ref (q 55)) (C := RX12) (T := TX12) (N := 59) hx hb hts inX12 hown hK hP 0 rfl rfl 55 (by decide) fl142 (fun _ h9 => h9) rfl dX12_give_57 ?_
            refine lv_iload hx hb dX12_give_60 (lv_at hl 0 rfl) ?_
            refine va_iald hx hb hK hP 2 0 rfl rfl (show vp_in 3 4 from by unfold vp_in; decide) dX12_give_62 ?_
            refine lv_topi (fun x_200 ex_200 => ?_)
            obtain rfl : x_200 = nI w_192 := ex_200.trans ex_190.symm
            refine lv_iadd hx hb dX12_give_63 ?_
            refine lv_topi (fun x_201 ex_201 => ?_)
            obtain rfl : x_201 = nI (384 + w_192) := ex_201.trans (nI_add 384 w_192)
            refine va_iald hx hb hK hP 1 0 rfl rfl hi_196 dX12_give_64 ?_
            refine lv_topi (fun x_202 ex_202 => ?_)
            refine lv_iadd hx hb dX12_give_65 ?_
            refine lv_topi (fun x_203 ex_203 => ?_)
            have hc39 := cost_nx (c := 3) (c2 := 4) hc29 (x := x_202) (co2 := x_203) ((by rw [ex_202, nI_clamp (by omega)]; exact (hKm 3 (by decide) w_192 (by omega)).2 hn39 : x_202.toInt = CC 3 w_192).trans (by rw [hw39])) (hCb 3 (by decide) _ hk3) ex_203 rfl (by decide)
            refine lv_istore_n (lv' := [(3, .int x_203), (4, .int 3), (0, .ref h0), (2, .int (nI n_188))]) hx hb dX12_give_66 rfl hl (by decide) rfl (fun ls hl => ?_)
            refine lv_aload_n hx hb dX12_give_67 rfl (lv_at hl 2 rfl) ?_
            refine va_get (D := E.1) (ci := 12) (v := .ref (q 55)) (C := RX12) (T := TX12) (N := 59) hx hb hts inX12 hown hK hP 0 rfl rfl 55 (by decide) fl142 (fun _ h9 => h9) rfl dX12_give_68 ?_
            refine lv_iload hx hb dX12_give_71 (lv_at hl 1 rfl) ?_
            refine va_iald hx hb hK hP 2 0 rfl rfl (show vp_in 3 4 from by unfold vp_in; decide) dX12_give_73 ?_
            refine lv_topi (fun x_204 ex_204 => ?_)
            obtain rfl : x_204 = nI w_192 := ex_204.trans ex_190.symm
            refine lv_istore (lv' := [(5, .int (nI w_192)), (3, .int x_203), (4, .int 3), (0, .ref h0), (2, .int (nI n_188))]) hx hb dX12_give_74 hl (by decide) rfl (fun ls hl => ?_)
            have hPl := hP.sub (ws' := [(h0, .inr (12, mG q i_taped i_size i_sort i_what i_at i_end i_worth i_faultKind i_faultPlace i_got i_worked (nI dl) i_isPlanned i_bestDone i_bestCost)), (q 51, .inl (E.2.1 0, 512, .inl a_least)), (q 55, .inl (E.2.1 0, 4, .inl a_sets)), (q 54, .inl (E.2.1 0, 7, .inl a_bestGiven)), (q 53, .inl (E.2.1 0, 7, .inl a_given))]) [0, 1, 2, 3, 4] rfl
            have hDl := hD.sub (ws' := [(h0, .inr (12, mG q i_taped i_size i_sort i_what i_at i_end i_worth i_faultKind i_faultPlace i_got i_worked (nI dl) i_isPlanned i_bestDone i_bestCost)), (q 51, .inl (E.2.1 0, 512, .inl a_least)), (q 55, .inl (E.2.1 0, 4, .inl a_sets)), (q 54, .inl (E.2.1 0, 7, .inl a_bestGiven)), (q 53, .inl (E.2.1 0, 7, .inl a_given))]) [0, 1, 2, 3, 4] (by decide) rfl
            refine lm_bits E h0 q i_taped i_size i_sort i_what i_at i_end i_worth i_faultKind i_faultPlace i_got i_worked i_isPlanned i_bestDone i_bestCost dl (n_188 + pc7 w_192) x_203 3 ([(q 51, .inl (E.2.1 0, 512, .inl a_least)), (q 55, .inl (E.2.1 0, 4, .inl a_sets)), (q 54, .inl (E.2.1 0, 7, .inl a_bestGiven)), (q 53, .inl (E.2.1 0, 7, .inl a_given))]) hx hb hml hown hts hkn hst hA  (fun n_205 H locs ls hm hP hD hS hl => ?_) (w_192 + 1) w_192 n_188 _ _ _ (Nat.lt_succ_self _) (by omega) rfl hPl hDl hS (lv_sub hl [3, 4, 1, 2, 0] rfl)
            have hP : va_P E.1 vwCl [(h0, .inr (12, mG q i_taped i_size i_sort i_what i_at i_end i_worth i_faultKind i_faultPlace i_got i_worked (nI dl) i_isPlanned i_bestDone i_bestCost)), (q 51, .inl (E.2.1 0, 512, .inl a_least)), (q 55, .inl (E.2.1 0, 4, .inl a_sets)), (q 54, .inl (E.2.1 0, 7, .inl a_bestGiven)), (q 53, .inl (E.2.1 0, 7, .inl a_given))] H := hP
            have hD : va_D A [(h0, .inr (12, mG q i_taped i_size i_sort i_what i_at i_end i_worth i_faultKind i_faultPlace i_got i_worked (nI dl) i_isPlanned i_bestDone i_bestCost)), (q 51, .inl (E.2.1 0, 512, .inl a_least)), (q 55, .inl (E.2.1 0, 4, .inl a_sets)), (q 54, .inl (E.2.1 0, 7, .inl a_bestGiven)), (q 53, .inl (E.2.1 0, 7, .inl a_given))] := hD
            have hm3 := hm
            refine lv_iinc (v := 4) (lv' := [(4, .int 4), (0, .ref h0), (2, .int (nI n_205)), (3, .int x_203)]) hx hb dX12_give_96 hl (k := 3) rfl (by decide) (by decide) rfl (fun ls hl => ?_)
            refine lv_goto (tgt := 15) hx hb dX12_give_99 (by decide) ?_
            refine lv_iload hx hb dX12_give_15 (lv_at hl 0 rfl) ?_
            refine lv_iconst (v := 4) hx hb dX12_give_17 (by decide) ?_
            refine lv_icmp_ge (tgt := 102) hx hb dX12_give_18 (by decide) (fun _ => ?_) (fun c9 => absurd c9 (by decide))
            have p70 := pc7_le w_141 (by omega)
            have p71 := pc7_le w_158 (by omega)
            have p72 := pc7_le w_175 (by omega)
            have p73 := pc7_le w_192 (by omega)
            have hcn9 : n_205 = cnt gp dl := by rw [← pc_sum gp dl hdl, ← hw09, ← hw19, ← hw29, ← hw39]; omega
            refine lv_iload_n hx hb dX12_give_102 rfl (lv_at hl 2 rfl) ?_
            refine lv_aload_n hx hb dX12_give_103 rfl (lv_at hl 1 rfl) ?_
            refine va_get (D := E.1) (ci := 12) (v := .int i_bestDone) (C := RX12) (T := TX12) (N := 59) hx hb hts inX12 hown hK hP 0 rfl rfl 57 (by decide) fl300 (fun _ h9 => h9) rfl dX12_give_104 ?_
            refine lv_icmp_lt (tgt := 126) hx hb dX12_give_107 (by decide) (fun c_206 => ?_) (fun c_206 => ?_)
            · have hP9 := hP.sub (ws' := [(h0, .inr (12, mG q i_taped i_size i_sort i_what i_at i_end i_worth i_faultKind i_faultPlace i_got i_worked (nI dl) i_isPlanned i_bestDone i_bestCost)), (q 51, .inl (E.2.1 0, 512, .inl a_least)), (q 55, .inl (E.2.1 0, 4, .inl a_sets)), (q 54, .inl (E.2.1 0, 7, .inl a_bestGiven)), (q 53, .inl (E.2.1 0, 7, .inl a_given))]) [0, 1, 2, 3, 4] rfl
              have hD9 := hD.sub (ws' := [(h0, .inr (12, mG q i_taped i_size i_sort i_what i_at i_end i_worth i_faultKind i_faultPlace i_got i_worked (nI dl) i_isPlanned i_bestDone i_bestCost)), (q 51, .inl (E.2.1 0, 512, .inl a_least)), (q 55, .inl (E.2.1 0, 4, .inl a_sets)), (q 54, .inl (E.2.1 0, 7, .inl a_bestGiven)), (q 53, .inl (E.2.1 0, 7, .inl a_given))]) [0, 1, 2, 3, 4] (by decide) rfl
              exact W.vret hx hb hr (fun t ht hW => ⟨⟨(i_bestDone, i_bestCost, a_sets, a_bestGiven, a_given), rfl, (BG_post hn9 (BG_old hdl hp9 (Or.inl (by rw [← hcn9]; exact gx_lt (by omega) c_206)) hB9)), hI_sets, (fun i hi => rfl), (fun k hk => rfl), by rw [ht]; exact hP9, hD9⟩, hS.F ht⟩) hS.2.2 dX12_give_126
            · refine lv_iload_n hx hb dX12_give_110 rfl (lv_at hl 2 rfl) ?_
              refine lv_aload_n hx hb dX12_give_111 rfl (lv_at hl 1 rfl) ?_
              refine va_get (D := E.1) (ci := 12) (v := .int i_bestDone) (C := RX12) (T := TX12) (N := 59) hx hb hts inX12 hown hK hP 0 rfl rfl 57 (by decide) fl300 (fun _ h9 => h9) rfl dX12_give_112 ?_
              refine lv_icmp_ne (tgt := 127) hx hb dX12_give_115 (by decide) (fun c_207 => ?_) (fun c_207 => ?_)
              · refine lv_aload_n hx hb dX12_give_127 rfl (lv_at hl 1 rfl) ?_
                refine lv_iload_n hx hb dX12_give_128 rfl (lv_at hl 2 rfl) ?_
                refine va_put (D := E.1) (ci := 12) (v := .int (nI n_205)) (ty := .int) (C := RX12) (T := TX12) (N := 59) hx hb hts inX12 tyX12 tyX12_ok nmX12 hown hK hP hD hS 0 rfl rfl 57 (by decide) fl300 (fun _ h9 => h9) rfl (by decide +kernel) rfl rfl (Nat.le_of_ble_eq_true rfl) dX12_give_129 (fun H locs hP hD hS => ?_)
                have hP : va_P E.1 vwCl [(h0, .inr (12, mG q i_taped i_size i_sort i_what i_at i_end i_worth i_faultKind i_faultPlace i_got i_worked (nI dl) i_isPlanned (nI n_205) i_bestCost)), (q 51, .inl (E.2.1 0, 512, .inl a_least)), (q 55, .inl (E.2.1 0, 4, .inl a_sets)), (q 54, .inl (E.2.1 0, 7, .inl a_bestGiven)), (q 53, .inl (E.2.1 0, 7, .inl a_given))] H := hP
                have hD : va_D A [(h0, .inr (12, mG q i_taped i_size i_sort i_what i_at i_end i_worth i_faultKind i_faultPlace i_got i_worked (nI dl) i_isPlanned (nI n_205) i_bestCost)), (q 51, .inl (E.2.1 0, 512, .inl a_least)), (q 55, .inl (E.2.1 0, 4, .inl a_sets)), (q 54, .inl (E.2.1 0, 7, .inl a_bestGiven)), (q 53, .inl (E.2.1 0, 7, .inl a_given))] := hD
                refine lv_aload_n hx hb dX12_give_132 rfl (lv_at hl 1 rfl) ?_
                refine lv_iload_n hx hb dX12_give_133 rfl (lv_at hl 3 rfl) ?_
                refine va_put (D := E.1) (ci := 12) (v := .int x_203) (ty := .int) (C := RX12) (T := TX12) (N := 59) hx hb hts inX12 tyX12 tyX12_ok nmX12 hown hK hP hD hS 0 rfl rfl 58 (by decide) fl303 (fun _ h9 => h9) rfl (by decide +kernel) rfl rfl (Nat.le_of_ble_eq_true rfl) dX12_give_134 (fun H locs hP hD hS => ?_)
                have hP : va_P E.1 vwCl [(h0, .inr (12, mG q i_taped i_size i_sort i_what i_at i_end i_worth i_faultKind i_faultPlace i_got i_worked (nI dl) i_isPlanned (nI n_205) x_203)), (q 51, .inl (E.2.1 0, 512, .inl a_least)), (q 55, .inl (E.2.1 0, 4, .inl a_sets)), (q 54, .inl (E.2.1 0, 7, .inl a_bestGiven)), (q 53, .inl (E.2.1 0, 7, .inl a_given))] H := hP
                have hD : va_D A [(h0, .inr (12, mG q i_taped i_size i_sort i_what i_at i_end i_worth i_faultKind i_faultPlace i_got i_worked (nI dl) i_isPlanned (nI n_205) x_203)), (q 51, .inl (E.2.1 0, 512, .inl a_least)), (q 55, .inl (E.2.1 0, 4, .inl a_sets)), (q 54, .inl (E.2.1 0, 7, .inl a_bestGiven)), (q 53, .inl (E.2.1 0, 7, .inl a_given))] := hD
                refine lv_iconst (v := 0) hx hb dX12_give_137 (by decide) ?_
                refine lv_istore (lv' := [(4, .int 0), (0, .ref h0), (2, .int (nI n_205)), (3, .int x_203)]) hx hb dX12_give_138 hl (by decide) rfl (fun ls hl => ?_)
                have hPl := hP.sub (ws' := [(h0, .inr (12, mG q i_taped i_size i_sort i_what i_at i_end i_worth i_faultKind i_faultPlace i_got i_worked (nI dl) i_isPlanned (nI n_205) x_203)), (q 53, .inl (E.2.1 0, 7, .inl a_given)), (q 54, .inl (E.2.1 0, 7, .inl a_bestGiven)), (q 51, .inl (E.2.1 0, 512, .inl a_least)), (q 55, .inl (E.2.1 0, 4, .inl a_sets))]) [0, 4, 3, 1, 2] rfl
                have hDl := hD.sub (ws' := [(h0, .inr (12, mG q i_taped i_size i_sort i_what i_at i_end i_worth i_faultKind i_faultPlace i_got i_worked (nI dl) i_isPlanned (nI n_205) x_203)), (q 53, .inl (E.2.1 0, 7, .inl a_given)), (q 54, .inl (E.2.1 0, 7, .inl a_bestGiven)), (q 51, .inl (E.2.1 0, 512, .inl a_least)), (q 55, .inl (E.2.1 0, 4, .inl a_sets))]) [0, 4, 3, 1, 2] (by decide) rfl
                refine lm_copy E h0 q i_taped i_size i_sort i_what i_at i_end i_worth i_faultKind i_faultPlace i_got i_worked i_isPlanned (nI n_205) x_203 dl a_given ([(q 51, .inl (E.2.1 0, 512, .inl a_least)), (q 55, .inl (E.2.1 0, 4, .inl a_sets))]) hx hb hml hown hts hkn hst hA (by omega) (fun n_208 H locs ls hcp hP hD hS hl => ?_) 9 0 a_bestGiven _ _ _ (by omega) (by omega) (fun j hj => absurd hj (Nat.not_lt_zero j)) hPl hDl hS (lv_sub hl [1, 0] rfl)
                have hP : va_P E.1 vwCl [(h0, .inr (12, mG q i_taped i_size i_sort i_what i_at i_end i_worth i_faultKind i_faultPlace i_got i_worked (nI dl) i_isPlanned (nI n_205) x_203)), (q 53, .inl (E.2.1 0, 7, .inl a_given)), (q 54, .inl (E.2.1 0, 7, .inl n_208)), (q 51, .inl (E.2.1 0, 512, .inl a_least)), (q 55, .inl (E.2.1 0, 4, .inl a_sets))] H := hP
                have hD : va_D A [(h0, .inr (12, mG q i_taped i_size i_sort i_what i_at i_end i_worth i_faultKind i_faultPlace i_got i_worked (nI dl) i_isPlanned (nI n_205) x_203)), (q 53, .inl (E.2.1 0, 7, .inl a_given)), (q 54, .inl (E.2.1 0, 7, .inl n_208)), (q 51, .inl (E.2.1 0, 512, .inl a_least)), (q 55, .inl (E.2.1 0, 4, .inl a_sets))] := hD
                have hP9 := hP.sub (ws' := [(h0, .inr (12, mG q i_taped i_size i_sort i_what i_at i_end i_worth i_faultKind i_faultPlace i_got i_worked (nI dl) i_isPlanned (nI n_205) x_203)), (q 51, .inl (E.2.1 0, 512, .inl a_least)), (q 55, .inl (E.2.1 0, 4, .inl a_sets)), (q 54, .inl (E.2.1 0, 7, .inl n_208)), (q 53, .inl (E.2.1 0, 7, .inl a_given))]) [0, 3, 4, 2, 1] rfl
                have hD9 := hD.sub (ws' := [(h0, .inr (12, mG q i_taped i_size i_sort i_what i_at i_end i_worth i_faultKind i_faultPlace i_got i_worked (nI dl) i_isPlanned (nI n_205) x_203)), (q 51, .inl (E.2.1 0, 512, .inl a_least)), (q 55, .inl (E.2.1 0, 4, .inl a_sets)), (q 54, .inl (E.2.1 0, 7, .inl n_208)), (q 53, .inl (E.2.1 0, 7, .inl a_given))]) [0, 3, 4, 2, 1] (by decide) rfl
                exact W.vret hx hb hr (fun t ht hW => ⟨⟨(nI n_205, x_203, a_sets, n_208, a_given), rfl, (BG_post hn9 (BG_new hdl hp9 (F4_all hk0 hk1 hk2 hk3) (Or.inl (by rw [← hcn9]; exact gx_gt (by omega) c_206 c_207)) (by rw [← hcn9]) hc39.1 (fun j hj => (hcp j hj).trans (hGv j (by omega))) hB9)), hI_sets, (fun i hi => rfl), (fun k hk => rfl), by rw [ht]; exact hP9, hD9⟩, hS.F ht⟩) hS.2.2 dX12_give_169
              · refine lv_iload_n hx hb dX12_give_118 rfl (lv_at hl 3 rfl) ?_
                refine lv_aload_n hx hb dX12_give_119 rfl (lv_at hl 1 rfl) ?_
                refine va_get (D := E.1) (ci := 12) (v := .int i_bestCost) (C := RX12) (T := TX12) (N := 59) hx hb hts inX12 hown hK hP 0 rfl rfl 58 (by decide) fl303 (fun _ h9 => h9) rfl dX12_give_120 ?_
                refine lv_icmp_lt (tgt := 127) hx hb dX12_give_123 (by decide) (fun c_209 => ?_) (fun c_209 => ?_)
                · refine lv_aload_n hx hb dX12_give_127 rfl (lv_at hl 1 rfl) ?_
                  refine lv_iload_n hx hb dX12_give_128 rfl (lv_at hl 2 rfl) ?_
                  refine va_put (D := E.1) (ci := 12) (v := .int (nI n_205)) (ty := .int) (C := RX12) (T := TX12) (N := 59) hx hb hts inX12 tyX12 tyX12_ok nmX12 hown hK hP hD hS 0 rfl rfl 57 (by decide) fl300 (fun _ h9 => h9) rfl (by decide +kernel) rfl rfl (Nat.le_of_ble_eq_true rfl) dX12_give_129 (fun H locs hP hD hS => ?_)
                  have hP : va_P E.1 vwCl [(h0, .inr (12, mG q i_taped i_size i_sort i_what i_at i_end i_worth i_faultKind i_faultPlace i_got i_worked (nI dl) i_isPlanned (nI n_205) i_bestCost)), (q 51, .inl (E.2.1 0, 512, .inl a_least)), (q 55, .inl (E.2.1 0, 4, .inl a_sets)), (q 54, .inl (E.2.1 0, 7, .inl a_bestGiven)), (q 53, .inl (E.2.1 0, 7, .inl a_given))] H := hP
                  have hD : va_D A [(h0, .inr (12, mG q i_taped i_size i_sort i_what i_at i_end i_worth i_faultKind i_faultPlace i_got i_worked (nI dl) i_isPlanned (nI n_205) i_bestCost)), (q 51, .inl (E.2.1 0, 512, .inl a_least)), (q 55, .inl (E.2.1 0, 4, .inl a_sets)), (q 54, .inl (E.2.1 0, 7, .inl a_bestGiven)), (q 53, .inl (E.2.1 0, 7, .inl a_given))] := hD
                  refine lv_aload_n hx hb dX12_give_132 rfl (lv_at hl 1 rfl) ?_
                  refine lv_iload_n hx hb dX12_give_133 rfl (lv_at hl 3 rfl) ?_
                  refine va_put (D := E.1) (ci := 12) (v := .int x_203) (ty := .int) (C := RX12) (T := TX12) (N := 59) hx hb hts inX12 tyX12 tyX12_ok nmX12 hown hK hP hD hS 0 rfl rfl 58 (by decide) fl303 (fun _ h9 => h9) rfl (by decide +kernel) rfl rfl (Nat.le_of_ble_eq_true rfl) dX12_give_134 (fun H locs hP hD hS => ?_)
                  have hP : va_P E.1 vwCl [(h0, .inr (12, mG q i_taped i_size i_sort i_what i_at i_end i_worth i_faultKind i_faultPlace i_got i_worked (nI dl) i_isPlanned (nI n_205) x_203)), (q 51, .inl (E.2.1 0, 512, .inl a_least)), (q 55, .inl (E.2.1 0, 4, .inl a_sets)), (q 54, .inl (E.2.1 0, 7, .inl a_bestGiven)), (q 53, .inl (E.2.1 0, 7, .inl a_given))] H := hP
                  have hD : va_D A [(h0, .inr (12, mG q i_taped i_size i_sort i_what i_at i_end i_worth i_faultKind i_faultPlace i_got i_worked (nI dl) i_isPlanned (nI n_205) x_203)), (q 51, .inl (E.2.1 0, 512, .inl a_least)), (q 55, .inl (E.2.1 0, 4, .inl a_sets)), (q 54, .inl (E.2.1 0, 7, .inl a_bestGiven)), (q 53, .inl (E.2.1 0, 7, .inl a_given))] := hD
                  refine lv_iconst (v := 0) hx hb dX12_give_137 (by decide) ?_
                  refine lv_istore (lv' := [(4, .int 0), (0, .ref h0), (2, .int (nI n_205)), (3, .int x_203)]) hx hb dX12_give_138 hl (by decide) rfl (fun ls hl => ?_)
                  have hPl := hP.sub (ws' := [(h0, .inr (12, mG q i_taped i_size i_sort i_what i_at i_end i_worth i_faultKind i_faultPlace i_got i_worked (nI dl) i_isPlanned (nI n_205) x_203)), (q 53, .inl (E.2.1 0, 7, .inl a_given)), (q 54, .inl (E.2.1 0, 7, .inl a_bestGiven)), (q 51, .inl (E.2.1 0, 512, .inl a_least)), (q 55, .inl (E.2.1 0, 4, .inl a_sets))]) [0, 4, 3, 1, 2] rfl
                  have hDl := hD.sub (ws' := [(h0, .inr (12, mG q i_taped i_size i_sort i_what i_at i_end i_worth i_faultKind i_faultPlace i_got i_worked (nI dl) i_isPlanned (nI n_205) x_203)), (q 53, .inl (E.2.1 0, 7, .inl a_given)), (q 54, .inl (E.2.1 0, 7, .inl a_bestGiven)), (q 51, .inl (E.2.1 0, 512, .inl a_least)), (q 55, .inl (E.2.1 0, 4, .inl a_sets))]) [0, 4, 3, 1, 2] (by decide) rfl
                  refine lm_copy E h0 q i_taped i_size i_sort i_what i_at i_end i_worth i_faultKind i_faultPlace i_got i_worked i_isPlanned (nI n_205) x_203 dl a_given ([(q 51, .inl (E.2.1 0, 512, .inl a_least)), (q 55, .inl (E.2.1 0, 4, .inl a_sets))]) hx hb hml hown hts hkn hst hA (by omega) (fun n_210 H locs ls hcp hP hD hS hl => ?_) 9 0 a_bestGiven _ _ _ (by omega) (by omega) (fun j hj => absurd hj (Nat.not_lt_zero j)) hPl hDl hS (lv_sub hl [1, 0] rfl)
                  have hP : va_P E.1 vwCl [(h0, .inr (12, mG q i_taped i_size i_sort i_what i_at i_end i_worth i_faultKind i_faultPlace i_got i_worked (nI dl) i_isPlanned (nI n_205) x_203)), (q 53, .inl (E.2.1 0, 7, .inl a_given)), (q 54, .inl (E.2.1 0, 7, .inl n_210)), (q 51, .inl (E.2.1 0, 512, .inl a_least)), (q 55, .inl (E.2.1 0, 4, .inl a_sets))] H := hP
                  have hD : va_D A [(h0, .inr (12, mG q i_taped i_size i_sort i_what i_at i_end i_worth i_faultKind i_faultPlace i_got i_worked (nI dl) i_isPlanned (nI n_205) x_203)), (q 53, .inl (E.2.1 0, 7, .inl a_given)), (q 54, .inl (E.2.1 0, 7, .inl n_210)), (q 51, .inl (E.2.1 0, 512, .inl a_least)), (q 55, .inl (E.2.1 0, 4, .inl a_sets))] := hD
                  have hP9 := hP.sub (ws' := [(h0, .inr (12, mG q i_taped i_size i_sort i_what i_at i_end i_worth i_faultKind i_faultPlace i_got i_worked (nI dl) i_isPlanned (nI n_205) x_203)), (q 51, .inl (E.2.1 0, 512, .inl a_least)), (q 55, .inl (E.2.1 0, 4, .inl a_sets)), (q 54, .inl (E.2.1 0, 7, .inl n_210)), (q 53, .inl (E.2.1 0, 7, .inl a_given))]) [0, 3, 4, 2, 1] rfl
                  have hD9 := hD.sub (ws' := [(h0, .inr (12, mG q i_taped i_size i_sort i_what i_at i_end i_worth i_faultKind i_faultPlace i_got i_worked (nI dl) i_isPlanned (nI n_205) x_203)), (q 51, .inl (E.2.1 0, 512, .inl a_least)), (q 55, .inl (E.2.1 0, 4, .inl a_sets)), (q 54, .inl (E.2.1 0, 7, .inl n_210)), (q 53, .inl (E.2.1 0, 7, .inl a_given))]) [0, 3, 4, 2, 1] (by decide) rfl
                  exact W.vret hx hb hr (fun t ht hW => ⟨⟨(nI n_205, x_203, a_sets, n_210, a_given), rfl, (BG_post hn9 (BG_new hdl hp9 (F4_all hk0 hk1 hk2 hk3) (Or.inr ⟨(by rw [← hcn9]; exact (gx_eq (by omega) c_207).symm), (by rw [← hc39.1]; exact (ii_lt _ _).mp c_209)⟩) (by rw [← hcn9]) hc39.1 (fun j hj => (hcp j hj).trans (hGv j (by omega))) hB9)), hI_sets, (fun i hi => rfl), (fun k hk => rfl), by rw [ht]; exact hP9, hD9⟩, hS.F ht⟩) hS.2.2 dX12_give_169
                · have hP9 := hP.sub (ws' := [(h0, .inr (12, mG q i_taped i_size i_sort i_what i_at i_end i_worth i_faultKind i_faultPlace i_got i_worked (nI dl) i_isPlanned i_bestDone i_bestCost)), (q 51, .inl (E.2.1 0, 512, .inl a_least)), (q 55, .inl (E.2.1 0, 4, .inl a_sets)), (q 54, .inl (E.2.1 0, 7, .inl a_bestGiven)), (q 53, .inl (E.2.1 0, 7, .inl a_given))]) [0, 1, 2, 3, 4] rfl
                  have hD9 := hD.sub (ws' := [(h0, .inr (12, mG q i_taped i_size i_sort i_what i_at i_end i_worth i_faultKind i_faultPlace i_got i_worked (nI dl) i_isPlanned i_bestDone i_bestCost)), (q 51, .inl (E.2.1 0, 512, .inl a_least)), (q 55, .inl (E.2.1 0, 4, .inl a_sets)), (q 54, .inl (E.2.1 0, 7, .inl a_bestGiven)), (q 53, .inl (E.2.1 0, 7, .inl a_given))]) [0, 1, 2, 3, 4] (by decide) rfl
                  exact W.vret hx hb hr (fun t ht hW => ⟨⟨(i_bestDone, i_bestCost, a_sets, a_bestGiven, a_given), rfl, (BG_post hn9 (BG_old hdl hp9 (Or.inr ⟨(by rw [← hcn9]; exact gx_eq (by omega) c_207), (by rw [← hc39.1]; exact gx_le c_209)⟩) hB9)), hI_sets, (fun i hi => rfl), (fun k hk => rfl), by rw [ht]; exact hP9, hD9⟩, hS.F ht⟩) hS.2.2 dX12_give_126
          · have hP9 := hP.sub (ws' := [(h0, .inr (12, mG q i_taped i_size i_sort i_what i_at i_end i_worth i_faultKind i_faultPlace i_got i_worked (nI dl) i_isPlanned i_bestDone i_bestCost)), (q 51, .inl (E.2.1 0, 512, .inl a_least)), (q 55, .inl (E.2.1 0, 4, .inl a_sets)), (q 54, .inl (E.2.1 0, 7, .inl a_bestGiven)), (q 53, .inl (E.2.1 0, 7, .inl a_given))]) [0, 1, 2, 3, 4] rfl
            have hD9 := hD.sub (ws' := [(h0, .inr (12, mG q i_taped i_size i_sort i_what i_at i_end i_worth i_faultKind i_faultPlace i_got i_worked (nI dl) i_isPlanned i_bestDone i_bestCost)), (q 51, .inl (E.2.1 0, 512, .inl a_least)), (q 55, .inl (E.2.1 0, 4, .inl a_sets)), (q 54, .inl (E.2.1 0, 7, .inl a_bestGiven)), (q 53, .inl (E.2.1 0, 7, .inl a_given))]) [0, 1, 2, 3, 4] (by decide) rfl
            exact W.vret hx hb hr (fun t ht hW => ⟨⟨(i_bestDone, i_bestCost, a_sets, a_bestGiven, a_given), rfl, (BG_post hn9 (BG_inf hp9 (c := 3) (by decide) (fun q9 => absurd ((hKm 3 (by decide) w_192 (by omega)).1.mpr (by rw [hw39]; exact q9)) (fun r9 => r9 (by rw [← nI_clamp (n := 128 * 3 + w_192) (by omega)]; exact ex_197.symm.trans c_198))) hB9)), hI_sets, (fun i hi => rfl), (fun k hk => rfl), by rw [ht]; exact hP9, hD9⟩, hS.F ht⟩) hS.2.2 dX12_give_44
        · have hP9 := hP.sub (ws' := [(h0, .inr (12, mG q i_taped i_size i_sort i_what i_at i_end i_worth i_faultKind i_faultPlace i_got i_worked (nI dl) i_isPlanned i_bestDone i_bestCost)), (q 51, .inl (E.2.1 0, 512, .inl a_least)), (q 55, .inl (E.2.1 0, 4, .inl a_sets)), (q 54, .inl (E.2.1 0, 7, .inl a_bestGiven)), (q 53, .inl (E.2.1 0, 7, .inl a_given))]) [0, 1, 2, 3, 4] rfl
          have hD9 := hD.sub (ws' := [(h0, .inr (12, mG q i_taped i_size i_sort i_what i_at i_end i_worth i_faultKind i_faultPlace i_got i_worked (nI dl) i_isPlanned i_bestDone i_bestCost)), (q 51, .inl (E.2.1 0, 512, .inl a_least)), (q 55, .inl (E.2.1 0, 4, .inl a_sets)), (q 54, .inl (E.2.1 0, 7, .inl a_bestGiven)), (q 53, .inl (E.2.1 0, 7, .inl a_given))]) [0, 1, 2, 3, 4] (by decide) rfl
          exact W.vret hx hb hr (fun t ht hW => ⟨⟨(i_bestDone, i_bestCost, a_sets, a_bestGiven, a_given), rfl, (BG_post hn9 (BG_inf hp9 (c := 2) (by decide) (fun q9 => absurd ((hKm 2 (by decide) w_175 (by omega)).1.mpr (by rw [hw29]; exact q9)) (fun r9 => r9 (by rw [← nI_clamp (n := 128 * 2 + w_175) (by omega)]; exact ex_180.symm.trans c_181))) hB9)), hI_sets, (fun i hi => rfl), (fun k hk => rfl), by rw [ht]; exact hP9, hD9⟩, hS.F ht⟩) hS.2.2 dX12_give_44
      · have hP9 := hP.sub (ws' := [(h0, .inr (12, mG q i_taped i_size i_sort i_what i_at i_end i_worth i_faultKind i_faultPlace i_got i_worked (nI dl) i_isPlanned i_bestDone i_bestCost)), (q 51, .inl (E.2.1 0, 512, .inl a_least)), (q 55, .inl (E.2.1 0, 4, .inl a_sets)), (q 54, .inl (E.2.1 0, 7, .inl a_bestGiven)), (q 53, .inl (E.2.1 0, 7, .inl a_given))]) [0, 1, 2, 3, 4] rfl
        have hD9 := hD.sub (ws' := [(h0, .inr (12, mG q i_taped i_size i_sort i_what i_at i_end i_worth i_faultKind i_faultPlace i_got i_worked (nI dl) i_isPlanned i_bestDone i_bestCost)), (q 51, .inl (E.2.1 0, 512, .inl a_least)), (q 55, .inl (E.2.1 0, 4, .inl a_sets)), (q 54, .inl (E.2.1 0, 7, .inl a_bestGiven)), (q 53, .inl (E.2.1 0, 7, .inl a_given))]) [0, 1, 2, 3, 4] (by decide) rfl
        exact W.vret hx hb hr (fun t ht hW => ⟨⟨(i_bestDone, i_bestCost, a_sets, a_bestGiven, a_given), rfl, (BG_post hn9 (BG_inf hp9 (c := 1) (by decide) (fun q9 => absurd ((hKm 1 (by decide) w_158 (by omega)).1.mpr (by rw [hw19]; exact q9)) (fun r9 => r9 (by rw [← nI_clamp (n := 128 * 1 + w_158) (by omega)]; exact ex_163.symm.trans c_164))) hB9)), hI_sets, (fun i hi => rfl), (fun k hk => rfl), by rw [ht]; exact hP9, hD9⟩, hS.F ht⟩) hS.2.2 dX12_give_44
    · have hP9 := hP.sub (ws' := [(h0, .inr (12, mG q i_taped i_size i_sort i_what i_at i_end i_worth i_faultKind i_faultPlace i_got i_worked (nI dl) i_isPlanned i_bestDone i_bestCost)), (q 51, .inl (E.2.1 0, 512, .inl a_least)), (q 55, .inl (E.2.1 0, 4, .inl a_sets)), (q 54, .inl (E.2.1 0, 7, .inl a_bestGiven)), (q 53, .inl (E.2.1 0, 7, .inl a_given))]) [0, 1, 2, 3, 4] rfl
      have hD9 := hD.sub (ws' := [(h0, .inr (12, mG q i_taped i_size i_sort i_what i_at i_end i_worth i_faultKind i_faultPlace i_got i_worked (nI dl) i_isPlanned i_bestDone i_bestCost)), (q 51, .inl (E.2.1 0, 512, .inl a_least)), (q 55, .inl (E.2.1 0, 4, .inl a_sets)), (q 54, .inl (E.2.1 0, 7, .inl a_bestGiven)), (q 53, .inl (E.2.1 0, 7, .inl a_given))]) [0, 1, 2, 3, 4] (by decide) rfl
      exact W.vret hx hb hr (fun t ht hW => ⟨⟨(i_bestDone, i_bestCost, a_sets, a_bestGiven, a_given), rfl, (BG_post hn9 (BG_inf hp9 (c := 0) (by decide) (fun q9 => absurd ((hKm 0 (by decide) w_141 (by omega)).1.mpr (by rw [hw09]; exact q9)) (fun r9 => r9 (by rw [← nI_clamp (n := 128 * 0 + w_141) (by omega)]; exact ex_146.symm.trans c_147))) hB9)), hI_sets, (fun i hi => rfl), (fun k hk => rfl), by rw [ht]; exact hP9, hD9⟩, hS.F ht⟩) hS.2.2 dX12_give_44
set_option maxHeartbeats 4000000 in
set_option maxRecDepth 100000 in
theorem c_X12_give2 (l : Launch) (E : vE) (h0 : Nat) (q : Nat → Nat) (i_taped : Int32) (i_size : Int32) (i_sort : Int32) (i_what : Int32) (i_at : Int32) (i_end : Int32) (i_worth : Int32) (i_faultKind : Int32) (i_faultPlace : Int32) (i_got : Int32) (i_worked : Int32) (i_isPlanned : Int32) (i_bestDone : Int32) (i_bestCost : Int32) (dl : Nat) (FF : Nat → Nat → Prop) (CC : Nat → Nat → Int) (gp : Nat → Nat) (a_least : Nat → Int32) (a_sets : Nat → Int32) (a_bestGiven : Nat → Int32) (a_given : Nat → Int32) (sz : Nat) (hdl : dl ≤ 7) (hd : 2 ≤ dl) (hp : ∀ k : Nat, k < 2 → gp k ≤ 4) (hSt : ∀ i : Nat, i < 4 → a_sets i = nI (setOf gp i 2)) (hGv : ∀ k : Nat, k < 2 → a_given k = gI (gp k)) (hBG : BG FF CC dl (hN gp 2 * 5 ^ (dl - 2)) i_bestDone i_bestCost a_bestGiven) (hKm : ∀ i : Nat, i < 4 → ∀ z : Nat, z < 128 → ((¬ a_least (128 * i + z) = -1) ↔ FF i z) ∧ ((¬ a_least (128 * i + z) = -1) → (a_least (128 * i + z)).toInt = CC i z)) (hCb : ∀ i : Nat, i < 4 → ∀ z : Nat, FF i z → 0 ≤ CC i z ∧ CC i z ≤ 70000) (hI_sets : ∀ k : Nat, k < 4 → inR (a_sets k) 0 127 = true) : Met l yX12_give wsX12_give ({ frames := 5, cells := 0, slots := 0, locals := 125 }) (pcW E [.ref h0, .int 2] sz [(h0, .inr (12, mG q i_taped i_size i_sort i_what i_at i_end i_worth i_faultKind i_faultPlace i_got i_worked (nI dl) i_isPlanned i_bestDone i_bestCost)), (q 51, .inl (E.2.1 0, 512, .inl a_least)), (q 55, .inl (E.2.1 0, 4, .inl a_sets)), (q 54, .inl (E.2.1 0, 7, .inl a_bestGiven)), (q 53, .inl (E.2.1 0, 7, .inl a_given))]) (va_Qv (fun (u : Int32 × Int32 × (Nat → Int32) × (Nat → Int32) × (Nat → Int32)) => match u with | (bd2, bc2, b_sets, b_bestGiven, b_given) => BG FF CC dl ((hN gp 2 + 1) * 5 ^ (dl - 2)) bd2 bc2 b_bestGiven) (fun (u : Int32 × Int32 × (Nat → Int32) × (Nat → Int32) × (Nat → Int32)) (t : State) => match u with | (bd2, bc2, b_sets, b_bestGiven, b_given) => (∀ k : Nat, k < 4 → inR (b_sets k) 0 127 = true) ∧ (∀ i : Nat, i < 4 → b_sets i = a_sets i) ∧ (∀ k : Nat, k < 2 → b_given k = a_given k) ∧ wB E (va_A [(h0, .inr (12, mG q i_taped i_size i_sort i_what i_at i_end i_worth i_faultKind i_faultPlace i_got i_worked (nI dl) i_isPlanned i_bestDone i_bestCost)), (q 51, .inl (E.2.1 0, 512, .inl a_least)), (q 55, .inl (E.2.1 0, 4, .inl a_sets)), (q 54, .inl (E.2.1 0, 7, .inl a_bestGiven)), (q 53, .inl (E.2.1 0, 7, .inl a_given))] sz) [(h0, .inr (12, mG q i_taped i_size i_sort i_what i_at i_end i_worth i_faultKind i_faultPlace i_got i_worked (nI dl) i_isPlanned bd2 bc2)), (q 51, .inl (E.2.1 0, 512, .inl a_least)), (q 55, .inl (E.2.1 0, 4, .inl b_sets)), (q 54, .inl (E.2.1 0, 7, .inl b_bestGiven)), (q 53, .inl (E.2.1 0, 7, .inl b_given))] t) (va_A [(h0, .inr (12, mG q i_taped i_size i_sort i_what i_at i_end i_worth i_faultKind i_faultPlace i_got i_worked (nI dl) i_isPlanned i_bestDone i_bestCost)), (q 51, .inl (E.2.1 0, 512, .inl a_least)), (q 55, .inl (E.2.1 0, 4, .inl a_sets)), (q 54, .inl (E.2.1 0, 7, .inl a_bestGiven)), (q 53, .inl (E.2.1 0, 7, .inl a_given))] sz)) 0 0 (va_A [(h0, .inr (12, mG q i_taped i_size i_sort i_what i_at i_end i_worth i_faultKind i_faultPlace i_got i_worked (nI dl) i_isPlanned i_bestDone i_bestCost)), (q 51, .inl (E.2.1 0, 512, .inl a_least)), (q 55, .inl (E.2.1 0, 4, .inl a_sets)), (q 54, .inl (E.2.1 0, 7, .inl a_bestGiven)), (q 53, .inl (E.2.1 0, 7, .inl a_given))] sz) := by
  refine Met.ofW (cc := cX12_give) (maxL := 6) (ret := none) (by decide) rfl ?_
  intro p e s m args below meth c s₁ B hml hv
  obtain ⟨rfl, hsz, hP, hkn, hD0, hst⟩ := hv
  have hx := B.exec
  have hb := B.bytes
  have hr := B.returns
  have hts := atoms_spec (ws := wsX12_give) B.pre
  have hown : s.vm.findClass RX12 = some m.cls := findClass_of_methodNamed B.named
  have hlocks := B.notSynchronized
  subst hsz
  have hD := hD0.self (sz := s.heap.size)
  have hK := hkn.1
  have hAO := hkn.2.2.1
  generalize hAe : va_A [(h0, .inr (12, mG q i_taped i_size i_sort i_what i_at i_end i_worth i_faultKind i_faultPlace i_got i_worked (nI dl) i_isPlanned i_bestDone i_bestCost)), (q 51, .inl (E.2.1 0, 512, .inl a_least)), (q 55, .inl (E.2.1 0, 4, .inl a_sets)), (q 54, .inl (E.2.1 0, 7, .inl a_bestGiven)), (q 53, .inl (E.2.1 0, 7, .inl a_given))] s.heap.size = A at hD hst ⊢
  have hA : ∀ q : Nat, s.heap.size ≤ q → A q := fun q h => by rw [← hAe]; exact Or.inr h
  have hS : va_S A s.heap s.heap [] := va_S.rf
  have hP : va_P E.1 vwCl [(h0, .inr (12, mG q i_taped i_size i_sort i_what i_at i_end i_worth i_faultKind i_faultPlace i_got i_worked (nI dl) i_isPlanned i_bestDone i_bestCost)), (q 51, .inl (E.2.1 0, 512, .inl a_least)), (q 55, .inl (E.2.1 0, 4, .inl a_sets)), (q 54, .inl (E.2.1 0, 7, .inl a_bestGiven)), (q 53, .inl (E.2.1 0, 7, .inl a_given))] s.heap := hP
  have hl := lv_entry ([.ref h0, .int 2]) (n := 6) (Nat.le_of_ble_eq_true rfl)
  rw [lg_entry_eq]
  generalize (lg_sl ([.ref h0, .int 2]) ++ List.replicate (6 - (lg_sl ([.ref h0, .int 2])).length) Slot.unset).toArray = ls at hl ⊢
  have hl : lv_has ls 6 [(0, .ref h0), (1, .int 2)] := hl
  have fl130 := hts (.fieldLink RX12 130 "BoatsHomeModel" "least" "[I") (by first | exact List.mem_of_getElem? (i := 2) rfl | decide +kernel)
  have fl136 := hts (.fieldLink RX12 136 "BoatsHomeModel" "given" "[I") (by first | exact List.mem_of_getElem? (i := 7) rfl | decide +kernel)
  have fl139 := hts (.fieldLink RX12 139 "BoatsHomeModel" "bestGiven" "[I") (by first | exact List.mem_of_getElem? (i := 6) rfl | decide +kernel)
  have fl142 := hts (.fieldLink RX12 142 "BoatsHomeModel" "sets" "[I") (by first | exact List.mem_of_getElem? (i := 3) rfl | decide +kernel)
  have fl289 := hts (.fieldLink RX12 289 "BoatsHomeModel" "deliveries" "I") (by first | exact List.mem_of_getElem? (i := 1) rfl | decide +kernel)
  have fl300 := hts (.fieldLink RX12 300 "BoatsHomeModel" "bestDone" "I") (by first | exact List.mem_of_getElem? (i := 4) rfl | decide +kernel)
  have fl303 := hts (.fieldLink RX12 303 "BoatsHomeModel" "bestCost" "I") (by first | exact List.mem_of_getElem? (i := 5) rfl | decide +kernel)
  have inX12 : ∀ w ∈ u_ws RX12 TX12 59, w ∈ wsX12_give := by first | exact fun w h9 => (List.mem_cons_of_mem _ (List.mem_append_right _ h9)) | decide +kernel
  refine lv_iload_n hx hb dX12_give_0 rfl (lv_at hl 1 rfl) ?_
  refine lv_aload_n hx hb dX12_give_1 rfl (lv_at hl 0 rfl) ?_
  refine va_get (D := E.1) (ci := 12) (v := .int (nI dl)) (C := RX12) (T := TX12) (N := 59) hx hb hts inX12 hown hK hP 0 rfl rfl 41 (by decide) fl289 (fun _ h9 => h9) rfl dX12_give_2 ?_
  refine lv_icmp_ne (tgt := 170) hx hb dX12_give_5 (by decide) (fun c_1 => ?_) (fun c_1 => ?_)
  · have hd2 : 2 + 1 ≤ dl := by
      rcases Nat.lt_or_ge 2 dl with q | q
      · exact q
      · exact absurd (by rw [show dl = 2 by omega]; rfl) c_1
    refine lv_iconst (v := 0) hx hb dX12_give_170 (by decide) ?_
    refine lv_istore_n (lv' := [(2, .int 0), (0, .ref h0), (1, .int 2)]) hx hb dX12_give_171 rfl hl (by decide) rfl (fun ls hl => ?_)
    refine lv_iload_n hx hb dX12_give_172 rfl (lv_at hl 0 rfl) ?_
    refine lv_iconst (v := 4) hx hb dX12_give_173 (by decide) ?_
    refine lv_icmp_ge (tgt := 223) hx hb dX12_give_174 (by decide) (fun c9 => absurd c9 (by decide)) (fun _ => ?_)
    refine lv_aload_n hx hb dX12_give_177 rfl (lv_at hl 1 rfl) ?_
    refine va_get (D := E.1) (ci := 12) (v := .ref (q 53)) (C := RX12) (T := TX12) (N := 59) hx hb hts inX12 hown hK hP 0 rfl rfl 53 (by decide) fl136 (fun _ h9 => h9) rfl dX12_give_178 ?_
    refine lv_iload_n hx hb dX12_give_181 rfl (lv_at hl 2 rfl) ?_
    refine lv_iload_n hx hb dX12_give_182 rfl (lv_at hl 0 rfl) ?_
    refine va_iast hx hb hK hP hD hS 4 0 rfl rfl (show vp_in 2 7 from by unfold vp_in; decide) dX12_give_183 (fun H locs hP hD hS => ?_)
    have hP : va_P E.1 vwCl [(h0, .inr (12, mG q i_taped i_size i_sort i_what i_at i_end i_worth i_faultKind i_faultPlace i_got i_worked (nI dl) i_isPlanned i_bestDone i_bestCost)), (q 51, .inl (E.2.1 0, 512, .inl a_least)), (q 55, .inl (E.2.1 0, 4, .inl a_sets)), (q 54, .inl (E.2.1 0, 7, .inl a_bestGiven)), (q 53, .inl (E.2.1 0, 7, .inl (upd a_given (Int32.toNatClampNeg 2) 0)))] H := hP
    have hD : va_D A [(h0, .inr (12, mG q i_taped i_size i_sort i_what i_at i_end i_worth i_faultKind i_faultPlace i_got i_worked (nI dl) i_isPlanned i_bestDone i_bestCost)), (q 51, .inl (E.2.1 0, 512, .inl a_least)), (q 55, .inl (E.2.1 0, 4, .inl a_sets)), (q 54, .inl (E.2.1 0, 7, .inl a_bestGiven)), (q 53, .inl (E.2.1 0, 7, .inl (upd a_given (Int32.toNatClampNeg 2) 0)))] := hD
    obtain ⟨f_2, ef_2⟩ : ∃ g : Nat → Int32, g = upd a_given (Int32.toNatClampNeg 2) 0 := ⟨_, rfl⟩
    rw [← ef_2] at hP hD
    refine lv_aload_n hx hb dX12_give_184 rfl (lv_at hl 1 rfl) ?_
    refine va_get (D := E.1) (ci := 12) (v := .ref (q 55)) (C := RX12) (T := TX12) (N := 59) hx hb hts inX12 hown hK hP 0 rfl rfl 55 (by decide) fl142 (fun _ h9 => h9) rfl dX12_give_185 ?_
    refine lv_iload_n hx hb dX12_give_188 rfl (lv_at hl 0 rfl) ?_
    refine lv_dup2_11 hx hb dX12_give_189 rfl rfl ?_
    refine va_iald hx hb hK hP 2 0 rfl rfl (show vp_in 0 4 from by unfold vp_in; decide) dX12_give_190 ?_
    refine lv_topi (fun x_3 ex_3 => ?_)
    have hv_4 : inR x_3 0 127 = true := by rw [ex_3]; exact hI_sets _ (vin_cl (show vp_in 0 4 from by unfold vp_in; decide))
    obtain ⟨w_5, hw_6, ew_7⟩ := inR_nI (n := 127) (by decide) hv_4
    subst ew_7
    refine lv_iconst (v := 1) hx hb dX12_give_191 (by decide) ?_
    refine lv_iload_n hx hb dX12_give_192 rfl (lv_at hl 2 rfl) ?_
    refine lv_ishl hx hb dX12_give_193 ?_
    refine lv_topi (fun x_8 ex_8 => ?_)
    obtain rfl : x_8 = 4 := ex_8.trans (by decide +kernel)
    refine lv_ior hx hb dX12_give_194 ?_
    refine lv_topi (fun x_9 ex_9 => ?_)
    refine va_iast hx hb hK hP hD hS 2 0 rfl rfl (show vp_in 0 4 from by unfold vp_in; decide) dX12_give_195 (fun H locs hP hD hS => ?_)
    have hP : va_P E.1 vwCl [(h0, .inr (12, mG q i_taped i_size i_sort i_what i_at i_end i_worth i_faultKind i_faultPlace i_got i_worked (nI dl) i_isPlanned i_bestDone i_bestCost)), (q 51, .inl (E.2.1 0, 512, .inl a_least)), (q 55, .inl (E.2.1 0, 4, .inl (upd a_sets (Int32.toNatClampNeg 0) x_9))), (q 54, .inl (E.2.1 0, 7, .inl a_bestGiven)), (q 53, .inl (E.2.1 0, 7, .inl f_2))] H := hP
    have hD : va_D A [(h0, .inr (12, mG q i_taped i_size i_sort i_what i_at i_end i_worth i_faultKind i_faultPlace i_got i_worked (nI dl) i_isPlanned i_bestDone i_bestCost)), (q 51, .inl (E.2.1 0, 512, .inl a_least)), (q 55, .inl (E.2.1 0, 4, .inl (upd a_sets (Int32.toNatClampNeg 0) x_9))), (q 54, .inl (E.2.1 0, 7, .inl a_bestGiven)), (q 53, .inl (E.2.1 0, 7, .inl f_2))] := hD
    obtain ⟨f_10, ef_10⟩ : ∃ g : Nat → Int32, g = upd a_sets (Int32.toNatClampNeg 0) x_9 := ⟨_, rfl⟩
    rw [← ef_10] at hP hD
    have hI_11 : ∀ k : Nat, k < 4 → inR (f_10 k) 0 127 = true := by rw [ef_10]; exact all_upd (P := fun z => inR z 0 127 = true) hI_sets (by rw [ex_9]; exact or_lt7 _ (by omega) 2 (by decide))
    refine lv_aload_n hx hb dX12_give_196 rfl (lv_at hl 1 rfl) ?_
    refine lv_iload_n hx hb dX12_give_197 rfl (lv_at hl 2 rfl) ?_
    refine lv_iconst (v := 1) hx hb dX12_give_198 (by decide) ?_
    refine lv_iadd hx hb dX12_give_199 ?_
    refine lv_topi (fun x_12 ex_12 => ?_)
    obtain rfl : x_12 = 3 := ex_12.trans (by decide +kernel)
    have hp0 : ∀ i : Nat, i < 4 → f_10 i = put a_sets 0 2 i := put_of (prev := a_sets) (x := x_9) (y := nI w_5) (z := 4) (fun i hi => rfl) (by decide) (ef_10.trans (by rw [show Int32.toNatClampNeg 0 = 0 from by decide])) ex_9 (ex_3.trans (by rw [show Int32.toNatClampNeg 0 = 0 from by decide])) (by decide)
    have hv0 : ∀ k : Nat, k < 2 + 1 → f_2 k = gI (pg gp 2 0 k) := gv_put (cur := a_given) (fun k hk => rfl) hGv (ef_2.trans (by rw [show Int32.toNatClampNeg 2 = 2 from by decide])) (by decide)
    have hPc := hP.sub (ws' := [(h0, .inr (12, mG q i_taped i_size i_sort i_what i_at i_end i_worth i_faultKind i_faultPlace i_got i_worked (nI dl) i_isPlanned i_bestDone i_bestCost)), (q 51, .inl (E.2.1 0, 512, .inl a_least)), (q 55, .inl (E.2.1 0, 4, .inl f_10)), (q 54, .inl (E.2.1 0, 7, .inl a_bestGiven)), (q 53, .inl (E.2.1 0, 7, .inl f_2))]) [0, 1, 2, 3, 4] rfl
    have hDc := hD.sub (ws' := [(h0, .inr (12, mG q i_taped i_size i_sort i_what i_at i_end i_worth i_faultKind i_faultPlace i_got i_worked (nI dl) i_isPlanned i_bestDone i_bestCost)), (q 51, .inl (E.2.1 0, 512, .inl a_least)), (q 55, .inl (E.2.1 0, 4, .inl f_10)), (q 54, .inl (E.2.1 0, 7, .inl a_bestGiven)), (q 53, .inl (E.2.1 0, 7, .inl f_2))]) [0, 1, 2, 3, 4] (by decide) rfl
    have hFc := va_free (wc := [(h0, .inr (12, mG q i_taped i_size i_sort i_what i_at i_end i_worth i_faultKind i_faultPlace i_got i_worked (nI dl) i_isPlanned i_bestDone i_bestCost)), (q 51, .inl (E.2.1 0, 512, .inl a_least)), (q 55, .inl (E.2.1 0, 4, .inl f_10)), (q 54, .inl (E.2.1 0, 7, .inl a_bestGiven)), (q 53, .inl (E.2.1 0, 7, .inl f_2))]) hD hS hA [0, 1, 2, 3, 4] rfl
    refine va_callv (va_runV (As := [.int 3]) (rest := []) ⟨hx, hb, hml, hown, hts⟩ (c_X12_give3 l E h0 q i_taped i_size i_sort i_what i_at i_end i_worth i_faultKind i_faultPlace i_got i_worked i_isPlanned i_bestDone i_bestCost dl FF CC (pg gp 2 0) a_least f_10 a_bestGiven f_2 H.size hdl hd2 (pg_le hp (by decide)) (st_put hSt hp0) hv0 (BG_M (M_0 hd2) hBG) hKm hCb hI_11) (cwV 1 hts gX12_give_X12_give rfl rfl rfl hdV_X12_give ⟨Nat.le_of_ble_eq_true rfl, Nat.le_of_ble_eq_true rfl⟩) ⟨pcW_blind, va_recv hK hPc (ci := 12) (q0 := 0) rfl rfl, (pcW_pre hPc hkn hDc hst hS hFc)⟩ rfl rfl hl.1 rfl (lv_room (Nat.le_of_ble_eq_true rfl)) dX12_give_200 ⟨Nat.le_of_ble_eq_true rfl, Nat.le_of_ble_eq_true rfl⟩) hS (fun q _ h => hFc q h) hFc (fun u t H1 locs ht hvm hw_14 hB hz1 hk1 hS => ?_)
    obtain ⟨u_15, u_16, u_17, u_18, u_19⟩ := u
    obtain ⟨hf_20, hf_21, hf_22, hP1, hD1⟩ := hB
    rw [ht] at hP1
    try dsimp only at hw_14
    obtain ⟨hP, hD⟩ := va_join (wr := []) (w1 := [(h0, .inr (12, mG q i_taped i_size i_sort i_what i_at i_end i_worth i_faultKind i_faultPlace i_got i_worked (nI dl) i_isPlanned u_15 u_16)), (q 51, .inl (E.2.1 0, 512, .inl a_least)), (q 55, .inl (E.2.1 0, 4, .inl u_17)), (q 54, .inl (E.2.1 0, 7, .inl u_18)), (q 53, .inl (E.2.1 0, 7, .inl u_19))]) hP hD [0, 1, 2, 3, 4] [] rfl rfl (by decide) (by decide) hk1 hFc hP1 hD1
    generalize H1 = H at hP hS ⊢
    have hP : va_P E.1 vwCl [(h0, .inr (12, mG q i_taped i_size i_sort i_what i_at i_end i_worth i_faultKind i_faultPlace i_got i_worked (nI dl) i_isPlanned u_15 u_16)), (q 51, .inl (E.2.1 0, 512, .inl a_least)), (q 55, .inl (E.2.1 0, 4, .inl u_17)), (q 54, .inl (E.2.1 0, 7, .inl u_18)), (q 53, .inl (E.2.1 0, 7, .inl u_19))] H := hP
    have hD : va_D A [(h0, .inr (12, mG q i_taped i_size i_sort i_what i_at i_end i_worth i_faultKind i_faultPlace i_got i_worked (nI dl) i_isPlanned u_15 u_16)), (q 51, .inl (E.2.1 0, 512, .inl a_least)), (q 55, .inl (E.2.1 0, 4, .inl u_17)), (q 54, .inl (E.2.1 0, 7, .inl u_18)), (q 53, .inl (E.2.1 0, 7, .inl u_19))] := hD
    refine lv_aload_n hx hb dX12_give_203 rfl (lv_at hl 1 rfl) ?_
    refine va_get (D := E.1) (ci := 12) (v := .ref (q 55)) (C := RX12) (T := TX12) (N := 59) hx hb hts inX12 hown hK hP 0 rfl rfl 55 (by decide) fl142 (fun _ h9 => h9) rfl dX12_give_204 ?_
    refine lv_iload_n hx hb dX12_give_207 rfl (lv_at hl 0 rfl) ?_
    refine lv_dup2_11 hx hb dX12_give_208 rfl rfl ?_
    refine va_iald hx hb hK hP 2 0 rfl rfl (show vp_in 0 4 from by unfold vp_in; decide) dX12_give_209 ?_
    refine lv_topi (fun x_23 ex_23 => ?_)
    have hv_24 : inR x_23 0 127 = true := by rw [ex_23]; exact hf_20 _ (vin_cl (show vp_in 0 4 from by unfold vp_in; decide))
    obtain ⟨w_25, hw_26, ew_27⟩ := inR_nI (n := 127) (by decide) hv_24
    subst ew_27
    refine lv_iconst (v := 1) hx hb dX12_give_210 (by decide) ?_
    refine lv_iload_n hx hb dX12_give_211 rfl (lv_at hl 2 rfl) ?_
    refine lv_ishl hx hb dX12_give_212 ?_
    refine lv_topi (fun x_28 ex_28 => ?_)
    obtain rfl : x_28 = 4 := ex_28.trans (by decide +kernel)
    refine lv_iconst (v := (-1)) hx hb dX12_give_213 (by decide) ?_
    refine lv_ixor hx hb dX12_give_214 ?_
    refine lv_topi (fun x_29 ex_29 => ?_)
    obtain rfl : x_29 = (-5) := ex_29.trans (by decide +kernel)
    refine lv_iand hx hb dX12_give_215 ?_
    refine lv_topi (fun x_30 ex_30 => ?_)
    refine va_iast hx hb hK hP hD hS 2 0 rfl rfl (show vp_in 0 4 from by unfold vp_in; decide) dX12_give_216 (fun H locs hP hD hS => ?_)
    have hP : va_P E.1 vwCl [(h0, .inr (12, mG q i_taped i_size i_sort i_what i_at i_end i_worth i_faultKind i_faultPlace i_got i_worked (nI dl) i_isPlanned u_15 u_16)), (q 51, .inl (E.2.1 0, 512, .inl a_least)), (q 55, .inl (E.2.1 0, 4, .inl (upd u_17 (Int32.toNatClampNeg 0) x_30))), (q 54, .inl (E.2.1 0, 7, .inl u_18)), (q 53, .inl (E.2.1 0, 7, .inl u_19))] H := hP
    have hD : va_D A [(h0, .inr (12, mG q i_taped i_size i_sort i_what i_at i_end i_worth i_faultKind i_faultPlace i_got i_worked (nI dl) i_isPlanned u_15 u_16)), (q 51, .inl (E.2.1 0, 512, .inl a_least)), (q 55, .inl (E.2.1 0, 4, .inl (upd u_17 (Int32.toNatClampNeg 0) x_30))), (q 54, .inl (E.2.1 0, 7, .inl u_18)), (q 53, .inl (E.2.1 0, 7, .inl u_19))] := hD
    obtain ⟨f_31, ef_31⟩ : ∃ g : Nat → Int32, g = upd u_17 (Int32.toNatClampNeg 0) x_30 := ⟨_, rfl⟩
    rw [← ef_31] at hP hD
    have hI_32 : ∀ k : Nat, k < 4 → inR (f_31 k) 0 127 = true := by rw [ef_31]; exact all_upd (P := fun z => inR z 0 127 = true) hf_20 (by rw [ex_30]; exact and_lt7 _ (by omega) 2 (by decide))
    have hb0 : ∀ i : Nat, i < 4 → f_31 i = a_sets i := gback_of (u := u_17) (x := x_30) (y := nI w_25) (z := (-5)) (by decide) (by decide) ⟨gp, hSt⟩ hp0 hf_21 (ef_31.trans (by rw [show Int32.toNatClampNeg 0 = 0 from by decide])) ex_30 (ex_23.trans (by rw [show Int32.toNatClampNeg 0 = 0 from by decide])) (by decide)
    refine lv_iinc (v := 1) (lv' := [(2, .int 1), (0, .ref h0), (1, .int 2)]) hx hb dX12_give_217 hl (k := 0) rfl (by decide) (by decide) rfl (fun ls hl => ?_)
    refine lv_goto (tgt := 172) hx hb dX12_give_220 (by decide) ?_
    refine lv_iload_n hx hb dX12_give_172 rfl (lv_at hl 0 rfl) ?_
    refine lv_iconst (v := 4) hx hb dX12_give_173 (by decide) ?_
    refine lv_icmp_ge (tgt := 223) hx hb dX12_give_174 (by decide) (fun c9 => absurd c9 (by decide)) (fun _ => ?_)
    refine lv_aload_n hx hb dX12_give_177 rfl (lv_at hl 1 rfl) ?_
    refine va_get (D := E.1) (ci := 12) (v := .ref (q 53)) (C := RX12) (T := TX12) (N := 59) hx hb hts inX12 hown hK hP 0 rfl rfl 53 (by decide) fl136 (fun _ h9 => h9) rfl dX12_give_178 ?_
    refine lv_iload_n hx hb dX12_give_181 rfl (lv_at hl 2 rfl) ?_
    refine lv_iload_n hx hb dX12_give_182 rfl (lv_at hl 0 rfl) ?_
    refine va_iast hx hb hK hP hD hS 4 0 rfl rfl (show vp_in 2 7 from by unfold vp_in; decide) dX12_give_183 (fun H locs hP hD hS => ?_)
    have hP : va_P E.1 vwCl [(h0, .inr (12, mG q i_taped i_size i_sort i_what i_at i_end i_worth i_faultKind i_faultPlace i_got i_worked (nI dl) i_isPlanned u_15 u_16)), (q 51, .inl (E.2.1 0, 512, .inl a_least)), (q 55, .inl (E.2.1 0, 4, .inl f_31)), (q 54, .inl (E.2.1 0, 7, .inl u_18)), (q 53, .inl (E.2.1 0, 7, .inl (upd u_19 (Int32.toNatClampNeg 2) 1)))] H := hP
    have hD : va_D A [(h0, .inr (12, mG q i_taped i_size i_sort i_what i_at i_end i_worth i_faultKind i_faultPlace i_got i_worked (nI dl) i_isPlanned u_15 u_16)), (q 51, .inl (E.2.1 0, 512, .inl a_least)), (q 55, .inl (E.2.1 0, 4, .inl f_31)), (q 54, .inl (E.2.1 0, 7, .inl u_18)), (q 53, .inl (E.2.1 0, 7, .inl (upd u_19 (Int32.toNatClampNeg 2) 1)))] := hD
    obtain ⟨f_33, ef_33⟩ : ∃ g : Nat → Int32, g = upd u_19 (Int32.toNatClampNeg 2) 1 := ⟨_, rfl⟩
    rw [← ef_33] at hP hD
    refine lv_aload_n hx hb dX12_give_184 rfl (lv_at hl 1 rfl) ?_
    refine va_get (D := E.1) (ci := 12) (v := .ref (q 55)) (C := RX12) (T := TX12) (N := 59) hx hb hts inX12 hown hK hP 0 rfl rfl 55 (by decide) fl142 (fun _ h9 => h9) rfl dX12_give_185 ?_
    refine lv_iload_n hx hb dX12_give_188 rfl (lv_at hl 0 rfl) ?_
    refine lv_dup2_11 hx hb dX12_give_189 rfl rfl ?_
    refine va_iald hx hb hK hP 2 0 rfl rfl (show vp_in 1 4 from by unfold vp_in; decide) dX12_give_190 ?_
    refine lv_topi (fun x_34 ex_34 => ?_)
    have hv_35 : inR x_34 0 127 = true := by rw [ex_34]; exact hI_32 _ (vin_cl (show vp_in 1 4 from by unfold vp_in; decide))
    obtain ⟨w_36, hw_37, ew_38⟩ := inR_nI (n := 127) (by decide) hv_35
    subst ew_38
    refine lv_iconst (v := 1) hx hb dX12_give_191 (by decide) ?_
    refine lv_iload_n hx hb dX12_give_192 rfl (lv_at hl 2 rfl) ?_
    refine lv_ishl hx hb dX12_give_193 ?_
    refine lv_topi (fun x_39 ex_39 => ?_)
    obtain rfl : x_39 = 4 := ex_39.trans (by decide +kernel)
    refine lv_ior hx hb dX12_give_194 ?_
    refine lv_topi (fun x_40 ex_40 => ?_)
    refine va_iast hx hb hK hP hD hS 2 0 rfl rfl (show vp_in 1 4 from by unfold vp_in; decide) dX12_give_195 (fun H locs hP hD hS => ?_)
    have hP : va_P E.1 vwCl [(h0, .inr (12, mG q i_taped i_size i_sort i_what i_at i_end i_worth i_faultKind i_faultPlace i_got i_worked (nI dl) i_isPlanned u_15 u_16)), (q 51, .inl (E.2.1 0, 512, .inl a_least)), (q 55, .inl (E.2.1 0, 4, .inl (upd f_31 (Int32.toNatClampNeg 1) x_40))), (q 54, .inl (E.2.1 0, 7, .inl u_18)), (q 53, .inl (E.2.1 0, 7, .inl f_33))] H := hP
    have hD : va_D A [(h0, .inr (12, mG q i_taped i_size i_sort i_what i_at i_end i_worth i_faultKind i_faultPlace i_got i_worked (nI dl) i_isPlanned u_15 u_16)), (q 51, .inl (E.2.1 0, 512, .inl a_least)), (q 55, .inl (E.2.1 0, 4, .inl (upd f_31 (Int32.toNatClampNeg 1) x_40))), (q 54, .inl (E.2.1 0, 7, .inl u_18)), (q 53, .inl (E.2.1 0, 7, .inl f_33))] := hD
    obtain ⟨f_41, ef_41⟩ : ∃ g : Nat → Int32, g = upd f_31 (Int32.toNatClampNeg 1) x_40 := ⟨_, rfl⟩
    rw [← ef_41] at hP hD
    have hI_42 : ∀ k : Nat, k < 4 → inR (f_41 k) 0 127 = true := by rw [ef_41]; exact all_upd (P := fun z => inR z 0 127 = true) hI_32 (by rw [ex_40]; exact or_lt7 _ (by omega) 2 (by decide))
    refine lv_aload_n hx hb dX12_give_196 rfl (lv_at hl 1 rfl) ?_
    refine lv_iload_n hx hb dX12_give_197 rfl (lv_at hl 2 rfl) ?_
    refine lv_iconst (v := 1) hx hb dX12_give_198 (by decide) ?_
    refine lv_iadd hx hb dX12_give_199 ?_
    refine lv_topi (fun x_43 ex_43 => ?_)
    obtain rfl : x_43 = 3 := ex_43.trans (by decide +kernel)
    have hp1 : ∀ i : Nat, i < 4 → f_41 i = put a_sets 1 2 i := put_of (prev := f_31) (x := x_40) (y := nI w_36) (z := 4) hb0 (by decide) (ef_41.trans (by rw [show Int32.toNatClampNeg 1 = 1 from by decide])) ex_40 (ex_34.trans (by rw [show Int32.toNatClampNeg 1 = 1 from by decide])) (by decide)
    have hv1 : ∀ k : Nat, k < 2 + 1 → f_33 k = gI (pg gp 2 1 k) := gv_put (cur := u_19) (gv_cur (fun k hk => rfl) (ef_2.trans (by rw [show Int32.toNatClampNeg 2 = 2 from by decide])) hf_22) hGv (ef_33.trans (by rw [show Int32.toNatClampNeg 2 = 2 from by decide])) (by decide)
    have hPc := hP.sub (ws' := [(h0, .inr (12, mG q i_taped i_size i_sort i_what i_at i_end i_worth i_faultKind i_faultPlace i_got i_worked (nI dl) i_isPlanned u_15 u_16)), (q 51, .inl (E.2.1 0, 512, .inl a_least)), (q 55, .inl (E.2.1 0, 4, .inl f_41)), (q 54, .inl (E.2.1 0, 7, .inl u_18)), (q 53, .inl (E.2.1 0, 7, .inl f_33))]) [0, 1, 2, 3, 4] rfl
    have hDc := hD.sub (ws' := [(h0, .inr (12, mG q i_taped i_size i_sort i_what i_at i_end i_worth i_faultKind i_faultPlace i_got i_worked (nI dl) i_isPlanned u_15 u_16)), (q 51, .inl (E.2.1 0, 512, .inl a_least)), (q 55, .inl (E.2.1 0, 4, .inl f_41)), (q 54, .inl (E.2.1 0, 7, .inl u_18)), (q 53, .inl (E.2.1 0, 7, .inl f_33))]) [0, 1, 2, 3, 4] (by decide) rfl
    have hFc := va_free (wc := [(h0, .inr (12, mG q i_taped i_size i_sort i_what i_at i_end i_worth i_faultKind i_faultPlace i_got i_worked (nI dl) i_isPlanned u_15 u_16)), (q 51, .inl (E.2.1 0, 512, .inl a_least)), (q 55, .inl (E.2.1 0, 4, .inl f_41)), (q 54, .inl (E.2.1 0, 7, .inl u_18)), (q 53, .inl (E.2.1 0, 7, .inl f_33))]) hD hS hA [0, 1, 2, 3, 4] rfl
    refine va_callv (va_runV (As := [.int 3]) (rest := []) ⟨hx, hb, hml, hown, hts⟩ (c_X12_give3 l E h0 q i_taped i_size i_sort i_what i_at i_end i_worth i_faultKind i_faultPlace i_got i_worked i_isPlanned u_15 u_16 dl FF CC (pg gp 2 1) a_least f_41 u_18 f_33 H.size hdl hd2 (pg_le hp (by decide)) (st_put hSt hp1) hv1 (BG_M M_s hw_14) hKm hCb hI_42) (cwV 1 hts gX12_give_X12_give rfl rfl rfl hdV_X12_give ⟨Nat.le_of_ble_eq_true rfl, Nat.le_of_ble_eq_true rfl⟩) ⟨pcW_blind, va_recv hK hPc (ci := 12) (q0 := 0) rfl rfl, (pcW_pre hPc hkn hDc hst hS hFc)⟩ rfl rfl hl.1 rfl (lv_room (Nat.le_of_ble_eq_true rfl)) dX12_give_200 ⟨Nat.le_of_ble_eq_true rfl, Nat.le_of_ble_eq_true rfl⟩) hS (fun q _ h => hFc q h) hFc (fun u t H1 locs ht hvm hw_45 hB hz1 hk1 hS => ?_)
    obtain ⟨u_46, u_47, u_48, u_49, u_50⟩ := u
    obtain ⟨hf_51, hf_52, hf_53, hP1, hD1⟩ := hB
    rw [ht] at hP1
    try dsimp only at hw_45
    obtain ⟨hP, hD⟩ := va_join (wr := []) (w1 := [(h0, .inr (12, mG q i_taped i_size i_sort i_what i_at i_end i_worth i_faultKind i_faultPlace i_got i_worked (nI dl) i_isPlanned u_46 u_47)), (q 51, .inl (E.2.1 0, 512, .inl a_least)), (q 55, .inl (E.2.1 0, 4, .inl u_48)), (q 54, .inl (E.2.1 0, 7, .inl u_49)), (q 53, .inl (E.2.1 0, 7, .inl u_50))]) hP hD [0, 1, 2, 3, 4] [] rfl rfl (by decide) (by decide) hk1 hFc hP1 hD1
    generalize H1 = H at hP hS ⊢
    have hP : va_P E.1 vwCl [(h0, .inr (12, mG q i_taped i_size i_sort i_what i_at i_end i_worth i_faultKind i_faultPlace i_got i_worked (nI dl) i_isPlanned u_46 u_47)), (q 51, .inl (E.2.1 0, 512, .inl a_least)), (q 55, .inl (E.2.1 0, 4, .inl u_48)), (q 54, .inl (E.2.1 0, 7, .inl u_49)), (q 53, .inl (E.2.1 0, 7, .inl u_50))] H := hP
    have hD : va_D A [(h0, .inr (12, mG q i_taped i_size i_sort i_what i_at i_end i_worth i_faultKind i_faultPlace i_got i_worked (nI dl) i_isPlanned u_46 u_47)), (q 51, .inl (E.2.1 0, 512, .inl a_least)), (q 55, .inl (E.2.1 0, 4, .inl u_48)), (q 54, .inl (E.2.1 0, 7, .inl u_49)), (q 53, .inl (E.2.1 0, 7, .inl u_50))] := hD
    refine lv_aload_n hx hb dX12_give_203 rfl (lv_at hl 1 rfl) ?_
    refine va_get (D := E.1) (ci := 12) (v := .ref (q 55)) (C := RX12) (T := TX12) (N := 59) hx hb hts inX12 hown hK hP 0 rfl rfl 55 (by decide) fl142 (fun _ h9 => h9) rfl dX12_give_204 ?_
    refine lv_iload_n hx hb dX12_give_207 rfl (lv_at hl 0 rfl) ?_
    refine lv_dup2_11 hx hb dX12_give_208 rfl rfl ?_
    refine va_iald hx hb hK hP 2 0 rfl rfl (show vp_in 1 4 from by unfold vp_in; decide) dX12_give_209 ?_
    refine lv_topi (fun x_54 ex_54 => ?_)
    have hv_55 : inR x_54 0 127 = true := by rw [ex_54]; exact hf_51 _ (vin_cl (show vp_in 1 4 from by unfold vp_in; decide))
    obtain ⟨w_56, hw_57, ew_58⟩ := inR_nI (n := 127) (by decide) hv_55
    subst ew_58
    refine lv_iconst (v := 1) hx hb dX12_give_210 (by decide) ?_
    refine lv_iload_n hx hb dX12_give_211 rfl (lv_at hl 2 rfl) ?_
    refine lv_ishl hx hb dX12_give_212 ?_
    refine lv_topi (fun x_59 ex_59 => ?_)
    obtain rfl : x_59 = 4 := ex_59.trans (by decide +kernel)
    refine lv_iconst (v := (-1)) hx hb dX12_give_213 (by decide) ?_
    refine lv_ixor hx hb dX12_give_214 ?_
    refine lv_topi (fun x_60 ex_60 => ?_)
    obtain rfl : x_60 = (-5) := ex_60.trans (by decide +kernel)
    refine lv_iand hx hb dX12_give_215 ?_
    refine lv_topi (fun x_61 ex_61 => ?_)
    refine va_iast hx hb hK hP hD hS 2 0 rfl rfl (show vp_in 1 4 from by unfold vp_in; decide) dX12_give_216 (fun H locs hP hD hS => ?_)
    have hP : va_P E.1 vwCl [(h0, .inr (12, mG q i_taped i_size i_sort i_what i_at i_end i_worth i_faultKind i_faultPlace i_got i_worked (nI dl) i_isPlanned u_46 u_47)), (q 51, .inl (E.2.1 0, 512, .inl a_least)), (q 55, .inl (E.2.1 0, 4, .inl (upd u_48 (Int32.toNatClampNeg 1) x_61))), (q 54, .inl (E.2.1 0, 7, .inl u_49)), (q 53, .inl (E.2.1 0, 7, .inl u_50))] H := hP
    have hD : va_D A [(h0, .inr (12, mG q i_taped i_size i_sort i_what i_at i_end i_worth i_faultKind i_faultPlace i_got i_worked (nI dl) i_isPlanned u_46 u_47)), (q 51, .inl (E.2.1 0, 512, .inl a_least)), (q 55, .inl (E.2.1 0, 4, .inl (upd u_48 (Int32.toNatClampNeg 1) x_61))), (q 54, .inl (E.2.1 0, 7, .inl u_49)), (q 53, .inl (E.2.1 0, 7, .inl u_50))] := hD
    obtain ⟨f_62, ef_62⟩ : ∃ g : Nat → Int32, g = upd u_48 (Int32.toNatClampNeg 1) x_61 := ⟨_, rfl⟩
    rw [← ef_62] at hP hD
    have hI_63 : ∀ k : Nat, k < 4 → inR (f_62 k) 0 127 = true := by rw [ef_62]; exact all_upd (P := fun z => inR z 0 127 = true) hf_51 (by rw [ex_61]; exact and_lt7 _ (by omega) 2 (by decide))
    have hb1 : ∀ i : Nat, i < 4 → f_62 i = a_sets i := gback_of (u := u_48) (x := x_61) (y := nI w_56) (z := (-5)) (by decide) (by decide) ⟨gp, hSt⟩ hp1 hf_52 (ef_62.trans (by rw [show Int32.toNatClampNeg 1 = 1 from by decide])) ex_61 (ex_54.trans (by rw [show Int32.toNatClampNeg 1 = 1 from by decide])) (by decide)
    refine lv_iinc (v := 2) (lv' := [(2, .int 2), (0, .ref h0), (1, .int 2)]) hx hb dX12_give_217 hl (k := 0) rfl (by decide) (by decide) rfl (fun ls hl => ?_)
    refine lv_goto (tgt := 172) hx hb dX12_give_220 (by decide) ?_
    refine lv_iload_n hx hb dX12_give_172 rfl (lv_at hl 0 rfl) ?_
    refine lv_iconst (v := 4) hx hb dX12_give_173 (by decide) ?_
    refine lv_icmp_ge (tgt := 223) hx hb dX12_give_174 (by decide) (fun c9 => absurd c9 (by decide)) (fun _ => ?_)
    refine lv_aload_n hx hb dX12_give_177 rfl (lv_at hl 1 rfl) ?_
    refine va_get (D := E.1) (ci := 12) (v := .ref (q 53)) (C := RX12) (T := TX12) (N := 59) hx hb hts inX12 hown hK hP 0 rfl rfl 53 (by decide) fl136 (fun _ h9 => h9) rfl dX12_give_178 ?_
    refine lv_iload_n hx hb dX12_give_181 rfl (lv_at hl 2 rfl) ?_
    refine lv_iload_n hx hb dX12_give_182 rfl (lv_at hl 0 rfl) ?_
    refine va_iast hx hb hK hP hD hS 4 0 rfl rfl (show vp_in 2 7 from by unfold vp_in; decide) dX12_give_183 (fun H locs hP hD hS => ?_)
    have hP : va_P E.1 vwCl [(h0, .inr (12, mG q i_taped i_size i_sort i_what i_at i_end i_worth i_faultKind i_faultPlace i_got i_worked (nI dl) i_isPlanned u_46 u_47)), (q 51, .inl (E.2.1 0, 512, .inl a_least)), (q 55, .inl (E.2.1 0, 4, .inl f_62)), (q 54, .inl (E.2.1 0, 7, .inl u_49)), (q 53, .inl (E.2.1 0, 7, .inl (upd u_50 (Int32.toNatClampNeg 2) 2)))] H := hP
    have hD : va_D A [(h0, .inr (12, mG q i_taped i_size i_sort i_what i_at i_end i_worth i_faultKind i_faultPlace i_got i_worked (nI dl) i_isPlanned u_46 u_47)), (q 51, .inl (E.2.1 0, 512, .inl a_least)), (q 55, .inl (E.2.1 0, 4, .inl f_62)), (q 54, .inl (E.2.1 0, 7, .inl u_49)), (q 53, .inl (E.2.1 0, 7, .inl (upd u_50 (Int32.toNatClampNeg 2) 2)))] := hD
    obtain ⟨f_64, ef_64⟩ : ∃ g : Nat → Int32, g = upd u_50 (Int32.toNatClampNeg 2) 2 := ⟨_, rfl⟩
    rw [← ef_64] at hP hD
    refine lv_aload_n hx hb dX12_give_184 rfl (lv_at hl 1 rfl) ?_
    refine va_get (D := E.1) (ci := 12) (v := .ref (q 55)) (C := RX12) (T := TX12) (N := 59) hx hb hts inX12 hown hK hP 0 rfl rfl 55 (by decide) fl142 (fun _ h9 => h9) rfl dX12_give_185 ?_
    refine lv_iload_n hx hb dX12_give_188 rfl (lv_at hl 0 rfl) ?_
    refine lv_dup2_11 hx hb dX12_give_189 rfl rfl ?_
    refine va_iald hx hb hK hP 2 0 rfl rfl (show vp_in 2 4 from by unfold vp_in; decide) dX12_give_190 ?_
    refine lv_topi (fun x_65 ex_65 => ?_)
    have hv_66 : inR x_65 0 127 = true := by rw [ex_65]; exact hI_63 _ (vin_cl (show vp_in 2 4 from by unfold vp_in; decide))
    obtain ⟨w_67, hw_68, ew_69⟩ := inR_nI (n := 127) (by decide) hv_66
    subst ew_69
    refine lv_iconst (v := 1) hx hb dX12_give_191 (by decide) ?_
    refine lv_iload_n hx hb dX12_give_192 rfl (lv_at hl 2 rfl) ?_
    refine lv_ishl hx hb dX12_give_193 ?_
    refine lv_topi (fun x_70 ex_70 => ?_)
    obtain rfl : x_70 = 4 := ex_70.trans (by decide +kernel)
    refine lv_ior hx hb dX12_give_194 ?_
    refine lv_topi (fun x_71 ex_71 => ?_)
    refine va_iast hx hb hK hP hD hS 2 0 rfl rfl (show vp_in 2 4 from by unfold vp_in; decide) dX12_give_195 (fun H locs hP hD hS => ?_)
    have hP : va_P E.1 vwCl [(h0, .inr (12, mG q i_taped i_size i_sort i_what i_at i_end i_worth i_faultKind i_faultPlace i_got i_worked (nI dl) i_isPlanned u_46 u_47)), (q 51, .inl (E.2.1 0, 512, .inl a_least)), (q 55, .inl (E.2.1 0, 4, .inl (upd f_62 (Int32.toNatClampNeg 2) x_71))), (q 54, .inl (E.2.1 0, 7, .inl u_49)), (q 53, .inl (E.2.1 0, 7, .inl f_64))] H := hP
    have hD : va_D A [(h0, .inr (12, mG q i_taped i_size i_sort i_what i_at i_end i_worth i_faultKind i_faultPlace i_got i_worked (nI dl) i_isPlanned u_46 u_47)), (q 51, .inl (E.2.1 0, 512, .inl a_least)), (q 55, .inl (E.2.1 0, 4, .inl (upd f_62 (Int32.toNatClampNeg 2) x_71))), (q 54, .inl (E.2.1 0, 7, .inl u_49)), (q 53, .inl (E.2.1 0, 7, .inl f_64))] := hD
    obtain ⟨f_72, ef_72⟩ : ∃ g : Nat → Int32, g = upd f_62 (Int32.toNatClampNeg 2) x_71 := ⟨_, rfl⟩
    rw [← ef_72] at hP hD
    have hI_73 : ∀ k : Nat, k < 4 → inR (f_72 k) 0 127 = true := by rw [ef_72]; exact all_upd (P := fun z => inR z 0 127 = true) hI_63 (by rw [ex_71]; exact or_lt7 _ (by omega) 2 (by decide))
    refine lv_aload_n hx hb dX12_give_196 rfl (lv_at hl 1 rfl) ?_
    refine lv_iload_n hx hb dX12_give_197 rfl (lv_at hl 2 rfl) ?_
    refine lv_iconst (v := 1) hx hb dX12_give_198 (by decide) ?_
    refine lv_iadd hx hb dX12_give_199 ?_
    refine lv_topi (fun x_74 ex_74 => ?_)
    obtain rfl : x_74 = 3 := ex_74.trans (by decide +kernel)
    have hp2 : ∀ i : Nat, i < 4 → f_72 i = put a_sets 2 2 i := put_of (prev := f_62) (x := x_71) (y := nI w_67) (z := 4) hb1 (by decide) (ef_72.trans (by rw [show Int32.toNatClampNeg 2 = 2 from by decide])) ex_71 (ex_65.trans (by rw [show Int32.toNatClampNeg 2 = 2 from by decide])) (by decide)
    have hv2 : ∀ k : Nat, k < 2 + 1 → f_64 k = gI (pg gp 2 2 k) := gv_put (cur := u_50) (gv_cur (gv_cur (fun k hk => rfl) (ef_2.trans (by rw [show Int32.toNatClampNeg 2 = 2 from by decide])) hf_22) (ef_33.trans (by rw [show Int32.toNatClampNeg 2 = 2 from by decide])) hf_53) hGv (ef_64.trans (by rw [show Int32.toNatClampNeg 2 = 2 from by decide])) (by decide)
    have hPc := hP.sub (ws' := [(h0, .inr (12, mG q i_taped i_size i_sort i_what i_at i_end i_worth i_faultKind i_faultPlace i_got i_worked (nI dl) i_isPlanned u_46 u_47)), (q 51, .inl (E.2.1 0, 512, .inl a_least)), (q 55, .inl (E.2.1 0, 4, .inl f_72)), (q 54, .inl (E.2.1 0, 7, .inl u_49)), (q 53, .inl (E.2.1 0, 7, .inl f_64))]) [0, 1, 2, 3, 4] rfl
    have hDc := hD.sub (ws' := [(h0, .inr (12, mG q i_taped i_size i_sort i_what i_at i_end i_worth i_faultKind i_faultPlace i_got i_worked (nI dl) i_isPlanned u_46 u_47)), (q 51, .inl (E.2.1 0, 512, .inl a_least)), (q 55, .inl (E.2.1 0, 4, .inl f_72)), (q 54, .inl (E.2.1 0, 7, .inl u_49)), (q 53, .inl (E.2.1 0, 7, .inl f_64))]) [0, 1, 2, 3, 4] (by decide) rfl
    have hFc := va_free (wc := [(h0, .inr (12, mG q i_taped i_size i_sort i_what i_at i_end i_worth i_faultKind i_faultPlace i_got i_worked (nI dl) i_isPlanned u_46 u_47)), (q 51, .inl (E.2.1 0, 512, .inl a_least)), (q 55, .inl (E.2.1 0, 4, .inl f_72)), (q 54, .inl (E.2.1 0, 7, .inl u_49)), (q 53, .inl (E.2.1 0, 7, .inl f_64))]) hD hS hA [0, 1, 2, 3, 4] rfl
    refine va_callv (va_runV (As := [.int 3]) (rest := []) ⟨hx, hb, hml, hown, hts⟩ (c_X12_give3 l E h0 q i_taped i_size i_sort i_what i_at i_end i_worth i_faultKind i_faultPlace i_got i_worked i_isPlanned u_46 u_47 dl FF CC (pg gp 2 2) a_least f_72 u_49 f_64 H.size hdl hd2 (pg_le hp (by decide)) (st_put hSt hp2) hv2 (BG_M M_s hw_45) hKm hCb hI_73) (cwV 1 hts gX12_give_X12_give rfl rfl rfl hdV_X12_give ⟨Nat.le_of_ble_eq_true rfl, Nat.le_of_ble_eq_true rfl⟩) ⟨pcW_blind, va_recv hK hPc (ci := 12) (q0 := 0) rfl rfl, (pcW_pre hPc hkn hDc hst hS hFc)⟩ rfl rfl hl.1 rfl (lv_room (Nat.le_of_ble_eq_true rfl)) dX12_give_200 ⟨Nat.le_of_ble_eq_true rfl, Nat.le_of_ble_eq_true rfl⟩) hS (fun q _ h => hFc q h) hFc (fun u t H1 locs ht hvm hw_76 hB hz1 hk1 hS => ?_)
    obtain ⟨u_77, u_78, u_79, u_80, u_81⟩ := u
    obtain ⟨hf_82, hf_83, hf_84, hP1, hD1⟩ := hB
    rw [ht] at hP1
    try dsimp only at hw_76
    obtain ⟨hP, hD⟩ := va_join (wr := []) (w1 := [(h0, .inr (12, mG q i_taped i_size i_sort i_what i_at i_end i_worth i_faultKind i_faultPlace i_got i_worked (nI dl) i_isPlanned u_77 u_78)), (q 51, .inl (E.2.1 0, 512, .inl a_least)), (q 55, .inl (E.2.1 0, 4, .inl u_79)), (q 54, .inl (E.2.1 0, 7, .inl u_80)), (q 53, .inl (E.2.1 0, 7, .inl u_81))]) hP hD [0, 1, 2, 3, 4] [] rfl rfl (by decide) (by decide) hk1 hFc hP1 hD1
    generalize H1 = H at hP hS ⊢
    have hP : va_P E.1 vwCl [(h0, .inr (12, mG q i_taped i_size i_sort i_what i_at i_end i_worth i_faultKind i_faultPlace i_got i_worked (nI dl) i_isPlanned u_77 u_78)), (q 51, .inl (E.2.1 0, 512, .inl a_least)), (q 55, .inl (E.2.1 0, 4, .inl u_79)), (q 54, .inl (E.2.1 0, 7, .inl u_80)), (q 53, .inl (E.2.1 0, 7, .inl u_81))] H := hP
    have hD : va_D A [(h0, .inr (12, mG q i_taped i_size i_sort i_what i_at i_end i_worth i_faultKind i_faultPlace i_got i_worked (nI dl) i_isPlanned u_77 u_78)), (q 51, .inl (E.2.1 0, 512, .inl a_least)), (q 55, .inl (E.2.1 0, 4, .inl u_79)), (q 54, .inl (E.2.1 0, 7, .inl u_80)), (q 53, .inl (E.2.1 0, 7, .inl u_81))] := hD
    refine lv_aload_n hx hb dX12_give_203 rfl (lv_at hl 1 rfl) ?_
    refine va_get (D := E.1) (ci := 12) (v := .ref (q 55)) (C := RX12) (T := TX12) (N := 59) hx hb hts inX12 hown hK hP 0 rfl rfl 55 (by decide) fl142 (fun _ h9 => h9) rfl dX12_give_204 ?_
    refine lv_iload_n hx hb dX12_give_207 rfl (lv_at hl 0 rfl) ?_
    refine lv_dup2_11 hx hb dX12_give_208 rfl rfl ?_
    refine va_iald hx hb hK hP 2 0 rfl rfl (show vp_in 2 4 from by unfold vp_in; decide) dX12_give_209 ?_
    refine lv_topi (fun x_85 ex_85 => ?_)
    have hv_86 : inR x_85 0 127 = true := by rw [ex_85]; exact hf_82 _ (vin_cl (show vp_in 2 4 from by unfold vp_in; decide))
    obtain ⟨w_87, hw_88, ew_89⟩ := inR_nI (n := 127) (by decide) hv_86
    subst ew_89
    refine lv_iconst (v := 1) hx hb dX12_give_210 (by decide) ?_
    refine lv_iload_n hx hb dX12_give_211 rfl (lv_at hl 2 rfl) ?_
    refine lv_ishl hx hb dX12_give_212 ?_
    refine lv_topi (fun x_90 ex_90 => ?_)
    obtain rfl : x_90 = 4 := ex_90.trans (by decide +kernel)
    refine lv_iconst (v := (-1)) hx hb dX12_give_213 (by decide) ?_
    refine lv_ixor hx hb dX12_give_214 ?_
    refine lv_topi (fun x_91 ex_91 => ?_)
    obtain rfl : x_91 = (-5) := ex_91.trans (by decide +kernel)
    refine lv_iand hx hb dX12_give_215 ?_
    refine lv_topi (fun x_92 ex_92 => ?_)
    refine va_iast hx hb hK hP hD hS 2 0 rfl rfl (show vp_in 2 4 from by unfold vp_in; decide) dX12_give_216 (fun H locs hP hD hS => ?_)
    have hP : va_P E.1 vwCl [(h0, .inr (12, mG q i_taped i_size i_sort i_what i_at i_end i_worth i_faultKind i_faultPlace i_got i_worked (nI dl) i_isPlanned u_77 u_78)), (q 51, .inl (E.2.1 0, 512, .inl a_least)), (q 55, .inl (E.2.1 0, 4, .inl (upd u_79 (Int32.toNatClampNeg 2) x_92))), (q 54, .inl (E.2.1 0, 7, .inl u_80)), (q 53, .inl (E.2.1 0, 7, .inl u_81))] H := hP
    have hD : va_D A [(h0, .inr (12, mG q i_taped i_size i_sort i_what i_at i_end i_worth i_faultKind i_faultPlace i_got i_worked (nI dl) i_isPlanned u_77 u_78)), (q 51, .inl (E.2.1 0, 512, .inl a_least)), (q 55, .inl (E.2.1 0, 4, .inl (upd u_79 (Int32.toNatClampNeg 2) x_92))), (q 54, .inl (E.2.1 0, 7, .inl u_80)), (q 53, .inl (E.2.1 0, 7, .inl u_81))] := hD
    obtain ⟨f_93, ef_93⟩ : ∃ g : Nat → Int32, g = upd u_79 (Int32.toNatClampNeg 2) x_92 := ⟨_, rfl⟩
    rw [← ef_93] at hP hD
    have hI_94 : ∀ k : Nat, k < 4 → inR (f_93 k) 0 127 = true := by rw [ef_93]; exact all_upd (P := fun z => inR z 0 127 = true) hf_82 (by rw [ex_92]; exact and_lt7 _ (by omega) 2 (by decide))
    have hb2 : ∀ i : Nat, i < 4 → f_93 i = a_sets i := gback_of (u := u_79) (x := x_92) (y := nI w_87) (z := (-5)) (by decide) (by decide) ⟨gp, hSt⟩ hp2 hf_83 (ef_93.trans (by rw [show Int32.toNatClampNeg 2 = 2 from by decide])) ex_92 (ex_85.trans (by rw [show Int32.toNatClampNeg 2 = 2 from by decide])) (by decide)
    refine lv_iinc (v := 3) (lv' := [(2, .int 3), (0, .ref h0), (1, .int 2)]) hx hb dX12_give_217 hl (k := 0) rfl (by decide) (by decide) rfl (fun ls hl => ?_)
    refine lv_goto (tgt := 172) hx hb dX12_give_220 (by decide) ?_
    refine lv_iload_n hx hb dX12_give_172 rfl (lv_at hl 0 rfl) ?_
    refine lv_iconst (v := 4) hx hb dX12_give_173 (by decide) ?_
    refine lv_icmp_ge (tgt := 223) hx hb dX12_give_174 (by decide) (fun c9 => absurd c9 (by decide)) (fun _ => ?_)
    refine lv_aload_n hx hb dX12_give_177 rfl (lv_at hl 1 rfl) ?_
    refine va_get (D := E.1) (ci := 12) (v := .ref (q 53)) (C := RX12) (T := TX12) (N := 59) hx hb hts inX12 hown hK hP 0 rfl rfl 53 (by decide) fl136 (fun _ h9 => h9) rfl dX12_give_178 ?_
    refine lv_iload_n hx hb dX12_give_181 rfl (lv_at hl 2 rfl) ?_
    refine lv_iload_n hx hb dX12_give_182 rfl (lv_at hl 0 rfl) ?_
    refine va_iast hx hb hK hP hD hS 4 0 rfl rfl (show vp_in 2 7 from by unfold vp_in; decide) dX12_give_183 (fun H locs hP hD hS => ?_)
    have hP : va_P E.1 vwCl [(h0, .inr (12, mG q i_taped i_size i_sort i_what i_at i_end i_worth i_faultKind i_faultPlace i_got i_worked (nI dl) i_isPlanned u_77 u_78)), (q 51, .inl (E.2.1 0, 512, .inl a_least)), (q 55, .inl (E.2.1 0, 4, .inl f_93)), (q 54, .inl (E.2.1 0, 7, .inl u_80)), (q 53, .inl (E.2.1 0, 7, .inl (upd u_81 (Int32.toNatClampNeg 2) 3)))] H := hP
    have hD : va_D A [(h0, .inr (12, mG q i_taped i_size i_sort i_what i_at i_end i_worth i_faultKind i_faultPlace i_got i_worked (nI dl) i_isPlanned u_77 u_78)), (q 51, .inl (E.2.1 0, 512, .inl a_least)), (q 55, .inl (E.2.1 0, 4, .inl f_93)), (q 54, .inl (E.2.1 0, 7, .inl u_80)), (q 53, .inl (E.2.1 0, 7, .inl (upd u_81 (Int32.toNatClampNeg 2) 3)))] := hD
    obtain ⟨f_95, ef_95⟩ : ∃ g : Nat → Int32, g = upd u_81 (Int32.toNatClampNeg 2) 3 := ⟨_, rfl⟩
    rw [← ef_95] at hP hD
    refine lv_aload_n hx hb dX12_give_184 rfl (lv_at hl 1 rfl) ?_
    refine va_get (D := E.1) (ci := 12) (v := .ref (q 55)) (C := RX12) (T := TX12) (N := 59) hx hb hts inX12 hown hK hP 0 rfl rfl 55 (by decide) fl142 (fun _ h9 => h9) rfl dX12_give_185 ?_
    refine lv_iload_n hx hb dX12_give_188 rfl (lv_at hl 0 rfl) ?_
    refine lv_dup2_11 hx hb dX12_give_189 rfl rfl ?_
    refine va_iald hx hb hK hP 2 0 rfl rfl (show vp_in 3 4 from by unfold vp_in; decide) dX12_give_190 ?_
    refine lv_topi (fun x_96 ex_96 => ?_)
    have hv_97 : inR x_96 0 127 = true := by rw [ex_96]; exact hI_94 _ (vin_cl (show vp_in 3 4 from by unfold vp_in; decide))
    obtain ⟨w_98, hw_99, ew_100⟩ := inR_nI (n := 127) (by decide) hv_97
    subst ew_100
    refine lv_iconst (v := 1) hx hb dX12_give_191 (by decide) ?_
    refine lv_iload_n hx hb dX12_give_192 rfl (lv_at hl 2 rfl) ?_
    refine lv_ishl hx hb dX12_give_193 ?_
    refine lv_topi (fun x_101 ex_101 => ?_)
    obtain rfl : x_101 = 4 := ex_101.trans (by decide +kernel)
    refine lv_ior hx hb dX12_give_194 ?_
    refine lv_topi (fun x_102 ex_102 => ?_)
    refine va_iast hx hb hK hP hD hS 2 0 rfl rfl (show vp_in 3 4 from by unfold vp_in; decide) dX12_give_195 (fun H locs hP hD hS => ?_)
    have hP : va_P E.1 vwCl [(h0, .inr (12, mG q i_taped i_size i_sort i_what i_at i_end i_worth i_faultKind i_faultPlace i_got i_worked (nI dl) i_isPlanned u_77 u_78)), (q 51, .inl (E.2.1 0, 512, .inl a_least)), (q 55, .inl (E.2.1 0, 4, .inl (upd f_93 (Int32.toNatClampNeg 3) x_102))), (q 54, .inl (E.2.1 0, 7, .inl u_80)), (q 53, .inl (E.2.1 0, 7, .inl f_95))] H := hP
    have hD : va_D A [(h0, .inr (12, mG q i_taped i_size i_sort i_what i_at i_end i_worth i_faultKind i_faultPlace i_got i_worked (nI dl) i_isPlanned u_77 u_78)), (q 51, .inl (E.2.1 0, 512, .inl a_least)), (q 55, .inl (E.2.1 0, 4, .inl (upd f_93 (Int32.toNatClampNeg 3) x_102))), (q 54, .inl (E.2.1 0, 7, .inl u_80)), (q 53, .inl (E.2.1 0, 7, .inl f_95))] := hD
    obtain ⟨f_103, ef_103⟩ : ∃ g : Nat → Int32, g = upd f_93 (Int32.toNatClampNeg 3) x_102 := ⟨_, rfl⟩
    rw [← ef_103] at hP hD
    have hI_104 : ∀ k : Nat, k < 4 → inR (f_103 k) 0 127 = true := by rw [ef_103]; exact all_upd (P := fun z => inR z 0 127 = true) hI_94 (by rw [ex_102]; exact or_lt7 _ (by omega) 2 (by decide))
    refine lv_aload_n hx hb dX12_give_196 rfl (lv_at hl 1 rfl) ?_
    refine lv_iload_n hx hb dX12_give_197 rfl (lv_at hl 2 rfl) ?_
    refine lv_iconst (v := 1) hx hb dX12_give_198 (by decide) ?_
    refine lv_iadd hx hb dX12_give_199 ?_
    refine lv_topi (fun x_105 ex_105 => ?_)
    obtain rfl : x_105 = 3 := ex_105.trans (by decide +kernel)
    have hp3 : ∀ i : Nat, i < 4 → f_103 i = put a_sets 3 2 i := put_of (prev := f_93) (x := x_102) (y := nI w_98) (z := 4) hb2 (by decide) (ef_103.trans (by rw [show Int32.toNatClampNeg 3 = 3 from by decide])) ex_102 (ex_96.trans (by rw [show Int32.toNatClampNeg 3 = 3 from by decide])) (by decide)
    have hv3 : ∀ k : Nat, k < 2 + 1 → f_95 k = gI (pg gp 2 3 k) := gv_put (cur := u_81) (gv_cur (gv_cur (gv_cur (fun k hk => rfl) (ef_2.trans (by rw [show Int32.toNatClampNeg 2 = 2 from by decide])) hf_22) (ef_33.trans (by rw [show Int32.toNatClampNeg 2 = 2 from by decide])) hf_53) (ef_64.trans (by rw [show Int32.toNatClampNeg 2 = 2 from by decide])) hf_84) hGv (ef_95.trans (by rw [show Int32.toNatClampNeg 2 = 2 from by decide])) (by decide)
    have hPc := hP.sub (ws' := [(h0, .inr (12, mG q i_taped i_size i_sort i_what i_at i_end i_worth i_faultKind i_faultPlace i_got i_worked (nI dl) i_isPlanned u_77 u_78)), (q 51, .inl (E.2.1 0, 512, .inl a_least)), (q 55, .inl (E.2.1 0, 4, .inl f_103)), (q 54, .inl (E.2.1 0, 7, .inl u_80)), (q 53, .inl (E.2.1 0, 7, .inl f_95))]) [0, 1, 2, 3, 4] rfl
    have hDc := hD.sub (ws' := [(h0, .inr (12, mG q i_taped i_size i_sort i_what i_at i_end i_worth i_faultKind i_faultPlace i_got i_worked (nI dl) i_isPlanned u_77 u_78)), (q 51, .inl (E.2.1 0, 512, .inl a_least)), (q 55, .inl (E.2.1 0, 4, .inl f_103)), (q 54, .inl (E.2.1 0, 7, .inl u_80)), (q 53, .inl (E.2.1 0, 7, .inl f_95))]) [0, 1, 2, 3, 4] (by decide) rfl
    have hFc := va_free (wc := [(h0, .inr (12, mG q i_taped i_size i_sort i_what i_at i_end i_worth i_faultKind i_faultPlace i_got i_worked (nI dl) i_isPlanned u_77 u_78)), (q 51, .inl (E.2.1 0, 512, .inl a_least)), (q 55, .inl (E.2.1 0, 4, .inl f_103)), (q 54, .inl (E.2.1 0, 7, .inl u_80)), (q 53, .inl (E.2.1 0, 7, .inl f_95))]) hD hS hA [0, 1, 2, 3, 4] rfl
    refine va_callv (va_runV (As := [.int 3]) (rest := []) ⟨hx, hb, hml, hown, hts⟩ (c_X12_give3 l E h0 q i_taped i_size i_sort i_what i_at i_end i_worth i_faultKind i_faultPlace i_got i_worked i_isPlanned u_77 u_78 dl FF CC (pg gp 2 3) a_least f_103 u_80 f_95 H.size hdl hd2 (pg_le hp (by decide)) (st_put hSt hp3) hv3 (BG_M M_s hw_76) hKm hCb hI_104) (cwV 1 hts gX12_give_X12_give rfl rfl rfl hdV_X12_give ⟨Nat.le_of_ble_eq_true rfl, Nat.le_of_ble_eq_true rfl⟩) ⟨pcW_blind, va_recv hK hPc (ci := 12) (q0 := 0) rfl rfl, (pcW_pre hPc hkn hDc hst hS hFc)⟩ rfl rfl hl.1 rfl (lv_room (Nat.le_of_ble_eq_true rfl)) dX12_give_200 ⟨Nat.le_of_ble_eq_true rfl, Nat.le_of_ble_eq_true rfl⟩) hS (fun q _ h => hFc q h) hFc (fun u t H1 locs ht hvm hw_107 hB hz1 hk1 hS => ?_)
    obtain ⟨u_108, u_109, u_110, u_111, u_112⟩ := u
    obtain ⟨hf_113, hf_114, hf_115, hP1, hD1⟩ := hB
    rw [ht] at hP1
    try dsimp only at hw_107
    obtain ⟨hP, hD⟩ := va_join (wr := []) (w1 := [(h0, .inr (12, mG q i_taped i_size i_sort i_what i_at i_end i_worth i_faultKind i_faultPlace i_got i_worked (nI dl) i_isPlanned u_108 u_109)), (q 51, .inl (E.2.1 0, 512, .inl a_least)), (q 55, .inl (E.2.1 0, 4, .inl u_110)), (q 54, .inl (E.2.1 0, 7, .inl u_111)), (q 53, .inl (E.2.1 0, 7, .inl u_112))]) hP hD [0, 1, 2, 3, 4] [] rfl rfl (by decide) (by decide) hk1 hFc hP1 hD1
    generalize H1 = H at hP hS ⊢
    have hP : va_P E.1 vwCl [(h0, .inr (12, mG q i_taped i_size i_sort i_what i_at i_end i_worth i_faultKind i_faultPlace i_got i_worked (nI dl) i_isPlanned u_108 u_109)), (q 51, .inl (E.2.1 0, 512, .inl a_least)), (q 55, .inl (E.2.1 0, 4, .inl u_110)), (q 54, .inl (E.2.1 0, 7, .inl u_111)), (q 53, .inl (E.2.1 0, 7, .inl u_112))] H := hP
    have hD : va_D A [(h0, .inr (12, mG q i_taped i_size i_sort i_what i_at i_end i_worth i_faultKind i_faultPlace i_got i_worked (nI dl) i_isPlanned u_108 u_109)), (q 51, .inl (E.2.1 0, 512, .inl a_least)), (q 55, .inl (E.2.1 0, 4, .inl u_110)), (q 54, .inl (E.2.1 0, 7, .inl u_111)), (q 53, .inl (E.2.1 0, 7, .inl u_112))] := hD
    refine lv_aload_n hx hb dX12_give_203 rfl (lv_at hl 1 rfl) ?_
    refine va_get (D := E.1) (ci := 12) (v := .ref (q 55)) (C := RX12) (T := TX12) (N := 59) hx hb hts inX12 hown hK hP 0 rfl rfl 55 (by decide) fl142 (fun _ h9 => h9) rfl dX12_give_204 ?_
    refine lv_iload_n hx hb dX12_give_207 rfl (lv_at hl 0 rfl) ?_
    refine lv_dup2_11 hx hb dX12_give_208 rfl rfl ?_
    refine va_iald hx hb hK hP 2 0 rfl rfl (show vp_in 3 4 from by unfold vp_in; decide) dX12_give_209 ?_
    refine lv_topi (fun x_116 ex_116 => ?_)
    have hv_117 : inR x_116 0 127 = true := by rw [ex_116]; exact hf_113 _ (vin_cl (show vp_in 3 4 from by unfold vp_in; decide))
    obtain ⟨w_118, hw_119, ew_120⟩ := inR_nI (n := 127) (by decide) hv_117
    subst ew_120
    refine lv_iconst (v := 1) hx hb dX12_give_210 (by decide) ?_
    refine lv_iload_n hx hb dX12_give_211 rfl (lv_at hl 2 rfl) ?_
    refine lv_ishl hx hb dX12_give_212 ?_
    refine lv_topi (fun x_121 ex_121 => ?_)
    obtain rfl : x_121 = 4 := ex_121.trans (by decide +kernel)
    refine lv_iconst (v := (-1)) hx hb dX12_give_213 (by decide) ?_
    refine lv_ixor hx hb dX12_give_214 ?_
    refine lv_topi (fun x_122 ex_122 => ?_)
    obtain rfl : x_122 = (-5) := ex_122.trans (by decide +kernel)
    refine lv_iand hx hb dX12_give_215 ?_
    refine lv_topi (fun x_123 ex_123 => ?_)
    refine va_iast hx hb hK hP hD hS 2 0 rfl rfl (show vp_in 3 4 from by unfold vp_in; decide) dX12_give_216 (fun H locs hP hD hS => ?_)
    have hP : va_P E.1 vwCl [(h0, .inr (12, mG q i_taped i_size i_sort i_what i_at i_end i_worth i_faultKind i_faultPlace i_got i_worked (nI dl) i_isPlanned u_108 u_109)), (q 51, .inl (E.2.1 0, 512, .inl a_least)), (q 55, .inl (E.2.1 0, 4, .inl (upd u_110 (Int32.toNatClampNeg 3) x_123))), (q 54, .inl (E.2.1 0, 7, .inl u_111)), (q 53, .inl (E.2.1 0, 7, .inl u_112))] H := hP
    have hD : va_D A [(h0, .inr (12, mG q i_taped i_size i_sort i_what i_at i_end i_worth i_faultKind i_faultPlace i_got i_worked (nI dl) i_isPlanned u_108 u_109)), (q 51, .inl (E.2.1 0, 512, .inl a_least)), (q 55, .inl (E.2.1 0, 4, .inl (upd u_110 (Int32.toNatClampNeg 3) x_123))), (q 54, .inl (E.2.1 0, 7, .inl u_111)), (q 53, .inl (E.2.1 0, 7, .inl u_112))] := hD
    obtain ⟨f_124, ef_124⟩ : ∃ g : Nat → Int32, g = upd u_110 (Int32.toNatClampNeg 3) x_123 := ⟨_, rfl⟩
    rw [← ef_124] at hP hD
    have hI_125 : ∀ k : Nat, k < 4 → inR (f_124 k) 0 127 = true := by rw [ef_124]; exact all_upd (P := fun z => inR z 0 127 = true) hf_113 (by rw [ex_123]; exact and_lt7 _ (by omega) 2 (by decide))
    have hb3 : ∀ i : Nat, i < 4 → f_124 i = a_sets i := gback_of (u := u_110) (x := x_123) (y := nI w_118) (z := (-5)) (by decide) (by decide) ⟨gp, hSt⟩ hp3 hf_114 (ef_124.trans (by rw [show Int32.toNatClampNeg 3 = 3 from by decide])) ex_123 (ex_116.trans (by rw [show Int32.toNatClampNeg 3 = 3 from by decide])) (by decide)
    refine lv_iinc (v := 4) (lv' := [(2, .int 4), (0, .ref h0), (1, .int 2)]) hx hb dX12_give_217 hl (k := 0) rfl (by decide) (by decide) rfl (fun ls hl => ?_)
    refine lv_goto (tgt := 172) hx hb dX12_give_220 (by decide) ?_
    refine lv_iload_n hx hb dX12_give_172 rfl (lv_at hl 0 rfl) ?_
    refine lv_iconst (v := 4) hx hb dX12_give_173 (by decide) ?_
    refine lv_icmp_ge (tgt := 223) hx hb dX12_give_174 (by decide) (fun _ => ?_) (fun c9 => absurd c9 (by decide))
    refine lv_aload_n hx hb dX12_give_223 rfl (lv_at hl 1 rfl) ?_
    refine va_get (D := E.1) (ci := 12) (v := .ref (q 53)) (C := RX12) (T := TX12) (N := 59) hx hb hts inX12 hown hK hP 0 rfl rfl 53 (by decide) fl136 (fun _ h9 => h9) rfl dX12_give_224 ?_
    refine lv_iload_n hx hb dX12_give_227 rfl (lv_at hl 2 rfl) ?_
    refine lv_iconst (v := (-1)) hx hb dX12_give_228 (by decide) ?_
    refine va_iast hx hb hK hP hD hS 4 0 rfl rfl (show vp_in 2 7 from by unfold vp_in; decide) dX12_give_229 (fun H locs hP hD hS => ?_)
    have hP : va_P E.1 vwCl [(h0, .inr (12, mG q i_taped i_size i_sort i_what i_at i_end i_worth i_faultKind i_faultPlace i_got i_worked (nI dl) i_isPlanned u_108 u_109)), (q 51, .inl (E.2.1 0, 512, .inl a_least)), (q 55, .inl (E.2.1 0, 4, .inl f_124)), (q 54, .inl (E.2.1 0, 7, .inl u_111)), (q 53, .inl (E.2.1 0, 7, .inl (upd u_112 (Int32.toNatClampNeg 2) (-1))))] H := hP
    have hD : va_D A [(h0, .inr (12, mG q i_taped i_size i_sort i_what i_at i_end i_worth i_faultKind i_faultPlace i_got i_worked (nI dl) i_isPlanned u_108 u_109)), (q 51, .inl (E.2.1 0, 512, .inl a_least)), (q 55, .inl (E.2.1 0, 4, .inl f_124)), (q 54, .inl (E.2.1 0, 7, .inl u_111)), (q 53, .inl (E.2.1 0, 7, .inl (upd u_112 (Int32.toNatClampNeg 2) (-1))))] := hD
    obtain ⟨f_126, ef_126⟩ : ∃ g : Nat → Int32, g = upd u_112 (Int32.toNatClampNeg 2) (-1) := ⟨_, rfl⟩
    rw [← ef_126] at hP hD
    refine lv_aload_n hx hb dX12_give_230 rfl (lv_at hl 1 rfl) ?_
    refine lv_iload_n hx hb dX12_give_231 rfl (lv_at hl 2 rfl) ?_
    refine lv_iconst (v := 1) hx hb dX12_give_232 (by decide) ?_
    refine lv_iadd hx hb dX12_give_233 ?_
    refine lv_topi (fun x_127 ex_127 => ?_)
    obtain rfl : x_127 = 3 := ex_127.trans (by decide +kernel)
    have hv4 : ∀ k : Nat, k < 2 + 1 → f_126 k = gI (pg gp 2 4 k) := gv_put (cur := u_112) (gv_cur (gv_cur (gv_cur (gv_cur (fun k hk => rfl) (ef_2.trans (by rw [show Int32.toNatClampNeg 2 = 2 from by decide])) hf_22) (ef_33.trans (by rw [show Int32.toNatClampNeg 2 = 2 from by decide])) hf_53) (ef_64.trans (by rw [show Int32.toNatClampNeg 2 = 2 from by decide])) hf_84) (ef_95.trans (by rw [show Int32.toNatClampNeg 2 = 2 from by decide])) hf_115) hGv (ef_126.trans (by rw [show Int32.toNatClampNeg 2 = 2 from by decide])) (by decide)
    have hPc := hP.sub (ws' := [(h0, .inr (12, mG q i_taped i_size i_sort i_what i_at i_end i_worth i_faultKind i_faultPlace i_got i_worked (nI dl) i_isPlanned u_108 u_109)), (q 51, .inl (E.2.1 0, 512, .inl a_least)), (q 55, .inl (E.2.1 0, 4, .inl f_124)), (q 54, .inl (E.2.1 0, 7, .inl u_111)), (q 53, .inl (E.2.1 0, 7, .inl f_126))]) [0, 1, 2, 3, 4] rfl
    have hDc := hD.sub (ws' := [(h0, .inr (12, mG q i_taped i_size i_sort i_what i_at i_end i_worth i_faultKind i_faultPlace i_got i_worked (nI dl) i_isPlanned u_108 u_109)), (q 51, .inl (E.2.1 0, 512, .inl a_least)), (q 55, .inl (E.2.1 0, 4, .inl f_124)), (q 54, .inl (E.2.1 0, 7, .inl u_111)), (q 53, .inl (E.2.1 0, 7, .inl f_126))]) [0, 1, 2, 3, 4] (by decide) rfl
    have hFc := va_free (wc := [(h0, .inr (12, mG q i_taped i_size i_sort i_what i_at i_end i_worth i_faultKind i_faultPlace i_got i_worked (nI dl) i_isPlanned u_108 u_109)), (q 51, .inl (E.2.1 0, 512, .inl a_least)), (q 55, .inl (E.2.1 0, 4, .inl f_124)), (q 54, .inl (E.2.1 0, 7, .inl u_111)), (q 53, .inl (E.2.1 0, 7, .inl f_126))]) hD hS hA [0, 1, 2, 3, 4] rfl
    refine va_callv (va_runV (As := [.int 3]) (rest := []) ⟨hx, hb, hml, hown, hts⟩ (c_X12_give3 l E h0 q i_taped i_size i_sort i_what i_at i_end i_worth i_faultKind i_faultPlace i_got i_worked i_isPlanned u_108 u_109 dl FF CC (pg gp 2 4) a_least f_124 u_111 f_126 H.size hdl hd2 (pg_le hp (by decide)) (st_none hSt hb3) hv4 (BG_M M_s hw_107) hKm hCb hI_125) (cwV 1 hts gX12_give_X12_give rfl rfl rfl hdV_X12_give ⟨Nat.le_of_ble_eq_true rfl, Nat.le_of_ble_eq_true rfl⟩) ⟨pcW_blind, va_recv hK hPc (ci := 12) (q0 := 0) rfl rfl, (pcW_pre hPc hkn hDc hst hS hFc)⟩ rfl rfl hl.1 rfl (lv_room (Nat.le_of_ble_eq_true rfl)) dX12_give_234 ⟨Nat.le_of_ble_eq_true rfl, Nat.le_of_ble_eq_true rfl⟩) hS (fun q _ h => hFc q h) hFc (fun u t H1 locs ht hvm hw_129 hB hz1 hk1 hS => ?_)
    obtain ⟨u_130, u_131, u_132, u_133, u_134⟩ := u
    obtain ⟨hf_135, hf_136, hf_137, hP1, hD1⟩ := hB
    rw [ht] at hP1
    try dsimp only at hw_129
    obtain ⟨hP, hD⟩ := va_join (wr := []) (w1 := [(h0, .inr (12, mG q i_taped i_size i_sort i_what i_at i_end i_worth i_faultKind i_faultPlace i_got i_worked (nI dl) i_isPlanned u_130 u_131)), (q 51, .inl (E.2.1 0, 512, .inl a_least)), (q 55, .inl (E.2.1 0, 4, .inl u_132)), (q 54, .inl (E.2.1 0, 7, .inl u_133)), (q 53, .inl (E.2.1 0, 7, .inl u_134))]) hP hD [0, 1, 2, 3, 4] [] rfl rfl (by decide) (by decide) hk1 hFc hP1 hD1
    generalize H1 = H at hP hS ⊢
    have hP : va_P E.1 vwCl [(h0, .inr (12, mG q i_taped i_size i_sort i_what i_at i_end i_worth i_faultKind i_faultPlace i_got i_worked (nI dl) i_isPlanned u_130 u_131)), (q 51, .inl (E.2.1 0, 512, .inl a_least)), (q 55, .inl (E.2.1 0, 4, .inl u_132)), (q 54, .inl (E.2.1 0, 7, .inl u_133)), (q 53, .inl (E.2.1 0, 7, .inl u_134))] H := hP
    have hD : va_D A [(h0, .inr (12, mG q i_taped i_size i_sort i_what i_at i_end i_worth i_faultKind i_faultPlace i_got i_worked (nI dl) i_isPlanned u_130 u_131)), (q 51, .inl (E.2.1 0, 512, .inl a_least)), (q 55, .inl (E.2.1 0, 4, .inl u_132)), (q 54, .inl (E.2.1 0, 7, .inl u_133)), (q 53, .inl (E.2.1 0, 7, .inl u_134))] := hD
    have hP9 := hP.sub (ws' := [(h0, .inr (12, mG q i_taped i_size i_sort i_what i_at i_end i_worth i_faultKind i_faultPlace i_got i_worked (nI dl) i_isPlanned u_130 u_131)), (q 51, .inl (E.2.1 0, 512, .inl a_least)), (q 55, .inl (E.2.1 0, 4, .inl u_132)), (q 54, .inl (E.2.1 0, 7, .inl u_133)), (q 53, .inl (E.2.1 0, 7, .inl u_134))]) [0, 1, 2, 3, 4] rfl
    have hD9 := hD.sub (ws' := [(h0, .inr (12, mG q i_taped i_size i_sort i_what i_at i_end i_worth i_faultKind i_faultPlace i_got i_worked (nI dl) i_isPlanned u_130 u_131)), (q 51, .inl (E.2.1 0, 512, .inl a_least)), (q 55, .inl (E.2.1 0, 4, .inl u_132)), (q 54, .inl (E.2.1 0, 7, .inl u_133)), (q 53, .inl (E.2.1 0, 7, .inl u_134))]) [0, 1, 2, 3, 4] (by decide) rfl
    exact W.vret hx hb hr (fun t ht hW => ⟨⟨(u_130, u_131, u_132, u_133, u_134), rfl, (BG_M (M_5 hd2) hw_129), hf_135, (fun i hi => (hf_136 i hi).trans (hb3 i hi)), (gv_cur (gv_cur (gv_cur (gv_cur (gv_cur (fun k hk => rfl) (ef_2.trans (by rw [show Int32.toNatClampNeg 2 = 2 from by decide])) hf_22) (ef_33.trans (by rw [show Int32.toNatClampNeg 2 = 2 from by decide])) hf_53) (ef_64.trans (by rw [show Int32.toNatClampNeg 2 = 2 from by decide])) hf_84) (ef_95.trans (by rw [show Int32.toNatClampNeg 2 = 2 from by decide])) hf_115) (ef_126.trans (by rw [show Int32.toNatClampNeg 2 = 2 from by decide])) hf_137), by rw [ht]; exact hP9, hD9⟩, hS.F ht⟩) hS.2.2 dX12_give_237
  · have hn9 : dl = 2 := ((nI_eq (a := 2) (by decide) (by omega)).mp c_1).symm
    have hB9 := BG_pre hn9 hBG
    have hp9 : ∀ k : Nat, k < dl → gp k ≤ 4 := fun k hk => hp k (by omega)
    refine lv_iconst (v := 0) hx hb dX12_give_8 (by decide) ?_
    refine lv_istore_n (lv' := [(2, .int 0), (0, .ref h0), (1, .int 2)]) hx hb dX12_give_9 rfl hl (by decide) rfl (fun ls hl => ?_)
    refine lv_iconst (v := 0) hx hb dX12_give_10 (by decide) ?_
    refine lv_istore_n (lv' := [(3, .int 0), (2, .int 0), (0, .ref h0), (1, .int 2)]) hx hb dX12_give_11 rfl hl (by decide) rfl (fun ls hl => ?_)
    refine lv_iconst (v := 0) hx hb dX12_give_12 (by decide) ?_
    refine lv_istore (lv' := [(4, .int 0), (3, .int 0), (2, .int 0), (0, .ref h0), (1, .int 2)]) hx hb dX12_give_13 hl (by decide) rfl (fun ls hl => ?_)
    refine lv_iload hx hb dX12_give_15 (lv_at hl 0 rfl) ?_
    refine lv_iconst (v := 4) hx hb dX12_give_17 (by decide) ?_
    refine lv_icmp_ge (tgt := 102) hx hb dX12_give_18 (by decide) (fun c9 => absurd c9 (by decide)) (fun _ => ?_)
    refine lv_aload_n hx hb dX12_give_21 rfl (lv_at hl 3 rfl) ?_
    refine va_get (D := E.1) (ci := 12) (v := .ref (q 51)) (C := RX12) (T := TX12) (N := 59) hx hb hts inX12 hown hK hP 0 rfl rfl 51 (by decide) fl130 (fun _ h9 => h9) rfl dX12_give_22 ?_
    refine lv_sipush (v := 128) hx hb dX12_give_25 (by decide) ?_
    refine lv_iload hx hb dX12_give_28 (lv_at hl 0 rfl) ?_
    refine lv_imul hx hb dX12_give_30 ?_
    refine lv_topi (fun x_138 ex_138 => ?_)
    obtain rfl : x_138 = 0 := ex_138.trans (by decide +kernel)
    refine lv_aload_n hx hb dX12_give_31 rfl (lv_at hl 3 rfl) ?_
    refine va_get (D := E.1) (ci := 12) (v := .ref (q 55)) (C := RX12) (T := TX12) (N := 59) hx hb hts inX12 hown hK hP 0 rfl rfl 55 (by decide) fl142 (fun _ h9 => h9) rfl dX12_give_32 ?_
    refine lv_iload hx hb dX12_give_35 (lv_at hl 0 rfl) ?_
    refine va_iald hx hb hK hP 2 0 rfl rfl (show vp_in 0 4 from by unfold vp_in; decide) dX12_give_37 ?_
    refine lv_topi (fun x_139 ex_139 => ?_)
    have hv_140 : inR x_139 0 127 = true := by rw [ex_139]; exact hI_sets _ (vin_cl (show vp_in 0 4 from by unfold vp_in; decide))
    obtain ⟨w_141, hw_142, ew_143⟩ := inR_nI (n := 127) (by decide) hv_140
    subst ew_143
    have hw09 : w_141 = setOf gp 0 dl := by rw [hn9]; exact nI_inj (by omega) (s128 gp 0 (by decide)) (ex_139.trans (by rw [show Int32.toNatClampNeg 0 = 0 from by decide]; exact hSt 0 (by decide)))
    refine lv_iadd hx hb dX12_give_38 ?_
    refine lv_topi (fun x_144 ex_144 => ?_)
    obtain rfl : x_144 = nI (0 + w_141) := ex_144.trans (nI_add 0 w_141)
    have hi_145 : vp_in (nI (0 + w_141)) 512 := vp_in_nI (by omega) (by decide)
    refine va_iald hx hb hK hP 1 0 rfl rfl hi_145 dX12_give_39 ?_
    refine lv_topi (fun x_146 ex_146 => ?_)
    refine lv_iconst (v := (-1)) hx hb dX12_give_40 (by decide) ?_
    refine lv_icmp_ne (tgt := 45) hx hb dX12_give_41 (by decide) (fun c_147 => ?_) (fun c_147 => ?_)
    · have hn09 : ¬ a_least (128 * 0 + w_141) = -1 := fun q9 => c_147 (ex_146.trans (by rw [nI_clamp (by omega)]; exact q9))
      have hk0 : FF 0 (setOf gp 0 dl) := by rw [← hw09]; exact (hKm 0 (by decide) w_141 (by omega)).1.mp hn09
      refine lv_iload_n hx hb dX12_give_45 rfl (lv_at hl 1 rfl) ?_
      refine lv_aload_n hx hb dX12_give_46 rfl (lv_at hl 3 rfl) ?_
      refine va_get (D := E.1) (ci := 12) (v := .ref (q 51)) (C := RX12) (T := TX12) (N := 59) hx hb hts inX12 hown hK hP 0 rfl rfl 51 (by decide) fl130 (fun _ h9 => h9) rfl dX12_give_47 ?_
      refine lv_sipush (v := 128) hx hb dX12_give_50 (by decide) ?_
      refine lv_iload hx hb dX12_give_53 (lv_at hl 0 rfl) ?_
      refine lv_imul hx hb dX12_give_55 ?_
      refine lv_topi (fun x_148 ex_148 => ?_)
      obtain rfl : x_148 = 0 := ex_148.trans (by decide +kernel)
      refine lv_aload_n hx hb dX12_give_56 rfl (lv_at hl 3 rfl) ?_
      refine va_get (D := E.1) (ci := 12) (v := .ref (q 55)) (C := RX12) (T := TX12) (N := 59) hx hb hts inX12 hown hK hP 0 rfl rfl 55 (by decide) fl142 (fun _ h9 => h9) rfl dX12_give_57 ?_
      refine lv_iload hx hb dX12_give_60 (lv_at hl 0 rfl) ?_
      refine va_iald hx hb hK hP 2 0 rfl rfl (show vp_in 0 4 from by unfold vp_in; decide) dX12_give_62 ?_
      refine lv_topi (fun x_149 ex_149 => ?_)
      obtain rfl : x_149 = nI w_141 := ex_149.trans ex_139.symm
      refine lv_iadd hx hb dX12_give_63 ?_
      refine lv_topi (fun x_150 ex_150 => ?_)
      obtain rfl : x_150 = nI (0 + w_141) := ex_150.trans (nI_add 0 w_141)
      refine va_iald hx hb hK hP 1 0 rfl rfl hi_145 dX12_give_64 ?_
      refine lv_topi (fun x_151 ex_151 => ?_)
      refine lv_iadd hx hb dX12_give_65 ?_
      refine lv_topi (fun x_152 ex_152 => ?_)
      have hc09 := cost_nx (c := 0) (c2 := 1) (co_0 CC gp dl) (x := x_151) (co2 := x_152) ((by rw [ex_151, nI_clamp (by omega)]; exact (hKm 0 (by decide) w_141 (by omega)).2 hn09 : x_151.toInt = CC 0 w_141).trans (by rw [hw09])) (hCb 0 (by decide) _ hk0) ex_152 rfl (by decide)
      refine lv_istore_n (lv' := [(3, .int x_152), (4, .int 0), (2, .int 0), (0, .ref h0), (1, .int 2)]) hx hb dX12_give_66 rfl hl (by decide) rfl (fun ls hl => ?_)
      refine lv_aload_n hx hb dX12_give_67 rfl (lv_at hl 3 rfl) ?_
      refine va_get (D := E.1) (ci := 12) (v := .ref (q 55)) (C := RX12) (T := TX12) (N := 59) hx hb hts inX12 hown hK hP 0 rfl rfl 55 (by decide) fl142 (fun _ h9 => h9) rfl dX12_give_68 ?_
      refine lv_iload hx hb dX12_give_71 (lv_at hl 1 rfl) ?_
      refine va_iald hx hb hK hP 2 0 rfl rfl (show vp_in 0 4 from by unfold vp_in; decide) dX12_give_73 ?_
      refine lv_topi (fun x_153 ex_153 => ?_)
      obtain rfl : x_153 = nI w_141 := ex_153.trans ex_139.symm
      refine lv_istore (lv' := [(5, .int (nI w_141)), (3, .int x_152), (4, .int 0), (2, .int 0), (0, .ref h0), (1, .int 2)]) hx hb dX12_give_74 hl (by decide) rfl (fun ls hl => ?_)
      have hPl := hP.sub (ws' := [(h0, .inr (12, mG q i_taped i_size i_sort i_what i_at i_end i_worth i_faultKind i_faultPlace i_got i_worked (nI dl) i_isPlanned i_bestDone i_bestCost)), (q 51, .inl (E.2.1 0, 512, .inl a_least)), (q 55, .inl (E.2.1 0, 4, .inl a_sets)), (q 54, .inl (E.2.1 0, 7, .inl a_bestGiven)), (q 53, .inl (E.2.1 0, 7, .inl a_given))]) [0, 1, 2, 3, 4] rfl
      have hDl := hD.sub (ws' := [(h0, .inr (12, mG q i_taped i_size i_sort i_what i_at i_end i_worth i_faultKind i_faultPlace i_got i_worked (nI dl) i_isPlanned i_bestDone i_bestCost)), (q 51, .inl (E.2.1 0, 512, .inl a_least)), (q 55, .inl (E.2.1 0, 4, .inl a_sets)), (q 54, .inl (E.2.1 0, 7, .inl a_bestGiven)), (q 53, .inl (E.2.1 0, 7, .inl a_given))]) [0, 1, 2, 3, 4] (by decide) rfl
      refine lm_bits E h0 q i_taped i_size i_sort i_what i_at i_end i_worth i_faultKind i_faultPlace i_got i_worked i_isPlanned i_bestDone i_bestCost dl (0 + pc7 w_141) x_152 0 ([(q 51, .inl (E.2.1 0, 512, .inl a_least)), (q 55, .inl (E.2.1 0, 4, .inl a_sets)), (q 54, .inl (E.2.1 0, 7, .inl a_bestGiven)), (q 53, .inl (E.2.1 0, 7, .inl a_given))]) hx hb hml hown hts hkn hst hA  (fun n_154 H locs ls hm hP hD hS hl => ?_) (w_141 + 1) w_141 0 _ _ _ (Nat.lt_succ_self _) (by omega) rfl hPl hDl hS (lv_sub hl [4, 3, 1, 2, 0] rfl)
      have hP : va_P E.1 vwCl [(h0, .inr (12, mG q i_taped i_size i_sort i_what i_at i_end i_worth i_faultKind i_faultPlace i_got i_worked (nI dl) i_isPlanned i_bestDone i_bestCost)), (q 51, .inl (E.2.1 0, 512, .inl a_least)), (q 55, .inl (E.2.1 0, 4, .inl a_sets)), (q 54, .inl (E.2.1 0, 7, .inl a_bestGiven)), (q 53, .inl (E.2.1 0, 7, .inl a_given))] H := hP
      have hD : va_D A [(h0, .inr (12, mG q i_taped i_size i_sort i_what i_at i_end i_worth i_faultKind i_faultPlace i_got i_worked (nI dl) i_isPlanned i_bestDone i_bestCost)), (q 51, .inl (E.2.1 0, 512, .inl a_least)), (q 55, .inl (E.2.1 0, 4, .inl a_sets)), (q 54, .inl (E.2.1 0, 7, .inl a_bestGiven)), (q 53, .inl (E.2.1 0, 7, .inl a_given))] := hD
      have hm0 := hm
      refine lv_iinc (v := 1) (lv' := [(4, .int 1), (0, .ref h0), (2, .int (nI n_154)), (3, .int x_152)]) hx hb dX12_give_96 hl (k := 3) rfl (by decide) (by decide) rfl (fun ls hl => ?_)
      refine lv_goto (tgt := 15) hx hb dX12_give_99 (by decide) ?_
      refine lv_iload hx hb dX12_give_15 (lv_at hl 0 rfl) ?_
      refine lv_iconst (v := 4) hx hb dX12_give_17 (by decide) ?_
      refine lv_icmp_ge (tgt := 102) hx hb dX12_give_18 (by decide) (fun c9 => absurd c9 (by decide)) (fun _ => ?_)
      refine lv_aload_n hx hb dX12_give_21 rfl (lv_at hl 1 rfl) ?_
      refine va_get (D := E.1) (ci := 12) (v := .ref (q 51)) (C := RX12) (T := TX12) (N := 59) hx hb hts inX12 hown hK hP 0 rfl rfl 51 (by decide) fl130 (fun _ h9 => h9) rfl dX12_give_22 ?_
      refine lv_sipush (v := 128) hx hb dX12_give_25 (by decide) ?_
      refine lv_iload hx hb dX12_give_28 (lv_at hl 0 rfl) ?_
      refine lv_imul hx hb dX12_give_30 ?_
      refine lv_topi (fun x_155 ex_155 => ?_)
      obtain rfl : x_155 = 128 := ex_155.trans (by decide +kernel)
      refine lv_aload_n hx hb dX12_give_31 rfl (lv_at hl 1 rfl) ?_
      refine va_get (D := E.1) (ci := 12) (v := .ref (q 55)) (C := RX12) (T := TX12) (N := 59) hx hb hts inX12 hown hK hP 0 rfl rfl 55 (by decide) fl142 (fun _ h9 => h9) rfl dX12_give_32 ?_
      refine lv_iload hx hb dX12_give_35 (lv_at hl 0 rfl) ?_
      refine va_iald hx hb hK hP 2 0 rfl rfl (show vp_in 1 4 from by unfold vp_in; decide) dX12_give_37 ?_
      refine lv_topi (fun x_156 ex_156 => ?_)
      have hv_157 : inR x_156 0 127 = true := by rw [ex_156]; exact hI_sets _ (vin_cl (show vp_in 1 4 from by unfold vp_in; decide))
      obtain ⟨w_158, hw_159, ew_160⟩ := inR_nI (n := 127) (by decide) hv_157
      subst ew_160
      have hw19 : w_158 = setOf gp 1 dl := by rw [hn9]; exact nI_inj (by omega) (s128 gp 1 (by decide)) (ex_156.trans (by rw [show Int32.toNatClampNeg 1 = 1 from by decide]; exact hSt 1 (by decide)))
      refine lv_iadd hx hb dX12_give_38 ?_
      refine lv_topi (fun x_161 ex_161 => ?_)
      obtain rfl : x_161 = nI (128 + w_158) := ex_161.trans (nI_add 128 w_158)
      have hi_162 : vp_in (nI (128 + w_158)) 512 := vp_in_nI (by omega) (by decide)
      refine va_iald hx hb hK hP 1 0 rfl rfl hi_162 dX12_give_39 ?_
      refine lv_topi (fun x_163 ex_163 => ?_)
      refine lv_iconst (v := (-1)) hx hb dX12_give_40 (by decide) ?_
      refine lv_icmp_ne (tgt := 45) hx hb dX12_give_41 (by decide) (fun c_164 => ?_) (fun c_164 => ?_)
      · have hn19 : ¬ a_least (128 * 1 + w_158) = -1 := fun q9 => c_164 (ex_163.trans (by rw [nI_clamp (by omega)]; exact q9))
        have hk1 : FF 1 (setOf gp 1 dl) := by rw [← hw19]; exact (hKm 1 (by decide) w_158 (by omega)).1.mp hn19
        refine lv_iload_n hx hb dX12_give_45 rfl (lv_at hl 3 rfl) ?_
        refine lv_aload_n hx hb dX12_give_46 rfl (lv_at hl 1 rfl) ?_
        refine va_get (D := E.1) (ci := 12) (v := .ref (q 51)) (C := RX12) (T := TX12) (N := 59) hx hb hts inX12 hown hK hP 0 rfl rfl 51 (by decide) fl130 (fun _ h9 => h9) rfl dX12_give_47 ?_
        refine lv_sipush (v := 128) hx hb dX12_give_50 (by decide) ?_
        refine lv_iload hx hb dX12_give_53 (lv_at hl 0 rfl) ?_
        refine lv_imul hx hb dX12_give_55 ?_
        refine lv_topi (fun x_165 ex_165 => ?_)
        obtain rfl : x_165 = 128 := ex_165.trans (by decide +kernel)
        refine lv_aload_n hx hb dX12_give_56 rfl (lv_at hl 1 rfl) ?_
        refine va_get (D := E.1) (ci := 12) (v := .ref (q 55)) (C := RX12) (T := TX12) (N := 59) hx hb hts inX12 hown hK hP 0 rfl rfl 55 (by decide) fl142 (fun _ h9 => h9) rfl dX12_give_57 ?_
        refine lv_iload hx hb dX12_give_60 (lv_at hl 0 rfl) ?_
        refine va_iald hx hb hK hP 2 0 rfl rfl (show vp_in 1 4 from by unfold vp_in; decide) dX12_give_62 ?_
        refine lv_topi (fun x_166 ex_166 => ?_)
        obtain rfl : x_166 = nI w_158 := ex_166.trans ex_156.symm
        refine lv_iadd hx hb dX12_give_63 ?_
        refine lv_topi (fun x_167 ex_167 => ?_)
        obtain rfl : x_167 = nI (128 + w_158) := ex_167.trans (nI_add 128 w_158)
        refine va_iald hx hb hK hP 1 0 rfl rfl hi_162 dX12_give_64 ?_
        refine lv_topi (fun x_168 ex_168 => ?_)
        refine lv_iadd hx hb dX12_give_65 ?_
        refine lv_topi (fun x_169 ex_169 => ?_)
        have hc19 := cost_nx (c := 1) (c2 := 2) hc09 (x := x_168) (co2 := x_169) ((by rw [ex_168, nI_clamp (by omega)]; exact (hKm 1 (by decide) w_158 (by omega)).2 hn19 : x_168.toInt = CC 1 w_158).trans (by rw [hw19])) (hCb 1 (by decide) _ hk1) ex_169 rfl (by decide)
        refine lv_istore_n (lv' := [(3, .int x_169), (4, .int 1), (0, .ref h0), (2, .int (nI n_154))]) hx hb dX12_give_66 rfl hl (by decide) rfl (fun ls hl => ?_)
        refine lv_aload_n hx hb dX12_give_67 rfl (lv_at hl 2 rfl) ?_
        refine va_get (D := E.1) (ci := 12) (v := .ref (q 55)) (C := RX12) (T := TX12) (N := 59) hx hb hts inX12 hown hK hP 0 rfl rfl 55 (by decide) fl142 (fun _ h9 => h9) rfl dX12_give_68 ?_
        refine lv_iload hx hb dX12_give_71 (lv_at hl 1 rfl) ?_
        refine va_iald hx hb hK hP 2 0 rfl rfl (show vp_in 1 4 from by unfold vp_in; decide) dX12_give_73 ?_
        refine lv_topi (fun x_170 ex_170 => ?_)
        obtain rfl : x_170 = nI w_158 := ex_170.trans ex_156.symm
        refine lv_istore (lv' := [(5, .int (nI w_158)), (3, .int x_169), (4, .int 1), (0, .ref h0), (2, .int (nI n_154))]) hx hb dX12_give_74 hl (by decide) rfl (fun ls hl => ?_)
        have hPl := hP.sub (ws' := [(h0, .inr (12, mG q i_taped i_size i_sort i_what i_at i_end i_worth i_faultKind i_faultPlace i_got i_worked (nI dl) i_isPlanned i_bestDone i_bestCost)), (q 51, .inl (E.2.1 0, 512, .inl a_least)), (q 55, .inl (E.2.1 0, 4, .inl a_sets)), (q 54, .inl (E.2.1 0, 7, .inl a_bestGiven)), (q 53, .inl (E.2.1 0, 7, .inl a_given))]) [0, 1, 2, 3, 4] rfl
        have hDl := hD.sub (ws' := [(h0, .inr (12, mG q i_taped i_size i_sort i_what i_at i_end i_worth i_faultKind i_faultPlace i_got i_worked (nI dl) i_isPlanned i_bestDone i_bestCost)), (q 51, .inl (E.2.1 0, 512, .inl a_least)), (q 55, .inl (E.2.1 0, 4, .inl a_sets)), (q 54, .inl (E.2.1 0, 7, .inl a_bestGiven)), (q 53, .inl (E.2.1 0, 7, .inl a_given))]) [0, 1, 2, 3, 4] (by decide) rfl
        refine lm_bits E h0 q i_taped i_size i_sort i_what i_at i_end i_worth i_faultKind i_faultPlace i_got i_worked i_isPlanned i_bestDone i_bestCost dl (n_154 + pc7 w_158) x_169 1 ([(q 51, .inl (E.2.1 0, 512, .inl a_least)), (q 55, .inl (E.2.1 0, 4, .inl a_sets)), (q 54, .inl (E.2.1 0, 7, .inl a_bestGiven)), (q 53, .inl (E.2.1 0, 7, .inl a_given))]) hx hb hml hown hts hkn hst hA  (fun n_171 H locs ls hm hP hD hS hl => ?_) (w_158 + 1) w_158 n_154 _ _ _ (Nat.lt_succ_self _) (by omega) rfl hPl hDl hS (lv_sub hl [3, 4, 1, 2, 0] rfl)
        have hP : va_P E.1 vwCl [(h0, .inr (12, mG q i_taped i_size i_sort i_what i_at i_end i_worth i_faultKind i_faultPlace i_got i_worked (nI dl) i_isPlanned i_bestDone i_bestCost)), (q 51, .inl (E.2.1 0, 512, .inl a_least)), (q 55, .inl (E.2.1 0, 4, .inl a_sets)), (q 54, .inl (E.2.1 0, 7, .inl a_bestGiven)), (q 53, .inl (E.2.1 0, 7, .inl a_given))] H := hP
        have hD : va_D A [(h0, .inr (12, mG q i_taped i_size i_sort i_what i_at i_end i_worth i_faultKind i_faultPlace i_got i_worked (nI dl) i_isPlanned i_bestDone i_bestCost)), (q 51, .inl (E.2.1 0, 512, .inl a_least)), (q 55, .inl (E.2.1 0, 4, .inl a_sets)), (q 54, .inl (E.2.1 0, 7, .inl a_bestGiven)), (q 53, .inl (E.2.1 0, 7, .inl a_given))] := hD
        have hm1 := hm
        refine lv_iinc (v := 2) (lv' := [(4, .int 2), (0, .ref h0), (2, .int (nI n_171)), (3, .int x_169)]) hx hb dX12_give_96 hl (k := 3) rfl (by decide) (by decide) rfl (fun ls hl => ?_)
        refine lv_goto (tgt := 15) hx hb dX12_give_99 (by decide) ?_
        refine lv_iload hx hb dX12_give_15 (lv_at hl 0 rfl) ?_
        refine lv_iconst (v := 4) hx hb dX12_give_17 (by decide) ?_
        refine lv_icmp_ge (tgt := 102) hx hb dX12_give_18 (by decide) (fun c9 => absurd c9 (by decide)) (fun _ => ?_)
        refine lv_aload_n hx hb dX12_give_21 rfl (lv_at hl 1 rfl) ?_
        refine va_get (D := E.1) (ci := 12) (v := .ref (q 51)) (C := RX12) (T := TX12) (N := 59) hx hb hts inX12 hown hK hP 0 rfl rfl 51 (by decide) fl130 (fun _ h9 => h9) rfl dX12_give_22 ?_
        refine lv_sipush (v := 128) hx hb dX12_give_25 (by decide) ?_
        refine lv_iload hx hb dX12_give_28 (lv_at hl 0 rfl) ?_
        refine lv_imul hx hb dX12_give_30 ?_
        refine lv_topi (fun x_172 ex_172 => ?_)
        obtain rfl : x_172 = 256 := ex_172.trans (by decide +kernel)
        refine lv_aload_n hx hb dX12_give_31 rfl (lv_at hl 1 rfl) ?_
        refine va_get (D := E.1) (ci := 12) (v := .ref (q 55)) (C := RX12) (T := TX12) (N := 59) hx hb hts inX12 hown hK hP 0 rfl rfl 55 (by decide) fl142 (fun _ h9 => h9) rfl dX12_give_32 ?_
        refine lv_iload hx hb dX12_give_35 (lv_at hl 0 rfl) ?_
        refine va_iald hx hb hK hP 2 0 rfl rfl (show vp_in 2 4 from by unfold vp_in; decide) dX12_give_37 ?_
        refine lv_topi (fun x_173 ex_173 => ?_)
        have hv_174 : inR x_173 0 127 = true := by rw [ex_173]; exact hI_sets _ (vin_cl (show vp_in 2 4 from by unfold vp_in; decide))
        obtain ⟨w_175, hw_176, ew_177⟩ := inR_nI (n := 127) (by decide) hv_174
        subst ew_177
        have hw29 : w_175 = setOf gp 2 dl := by rw [hn9]; exact nI_inj (by omega) (s128 gp 2 (by decide)) (ex_173.trans (by rw [show Int32.toNatClampNeg 2 = 2 from by decide]; exact hSt 2 (by decide)))
        refine lv_iadd hx hb dX12_give_38 ?_
        refine lv_topi (fun x_178 ex_178 => ?_)
        obtain rfl : x_178 = nI (256 + w_175) := ex_178.trans (nI_add 256 w_175)
        have hi_179 : vp_in (nI (256 + w_175)) 512 := vp_in_nI (by omega) (by decide)
        refine va_iald hx hb hK hP 1 0 rfl rfl hi_179 dX12_give_39 ?_
        refine lv_topi (fun x_180 ex_180 => ?_)
        refine lv_iconst (v := (-1)) hx hb dX12_give_40 (by decide) ?_
        refine lv_icmp_ne (tgt := 45) hx hb dX12_give_41 (by decide) (fun c_181 => ?_) (fun c_181 => ?_)
        · have hn29 : ¬ a_least (128 * 2 + w_175) = -1 := fun q9 => c_181 (ex_180.trans (by rw [nI_clamp (by omega)]; exact q9))
          have hk2 : FF 2 (setOf gp 2 dl) := by rw [← hw29]; exact (hKm 2 (by decide) w_175 (by omega)).1.mp hn29
          refine lv_iload_n hx hb dX12_give_45 rfl (lv_at hl 3 rfl) ?_
          refine lv_aload_n hx hb dX12_give_46 rfl (lv_at hl 1 rfl) ?_
          refine va_get (D := E.1) (ci := 12) (v := .ref (q 51)) (C := RX12) (T := TX12) (N := 59) hx hb hts inX12 hown hK hP 0 rfl rfl 51 (by decide) fl130 (fun _ h9 => h9) rfl dX12_give_47 ?_
          refine lv_sipush (v := 128) hx hb dX12_give_50 (by decide) ?_
          refine lv_iload hx hb dX12_give_53 (lv_at hl 0 rfl) ?_
          refine lv_imul hx hb dX12_give_55 ?_
          refine lv_topi (fun x_182 ex_182 => ?_)
          obtain rfl : x_182 = 256 := ex_182.trans (by decide +kernel)
          refine lv_aload_n hx hb dX12_give_56 rfl (lv_at hl 1 rfl) ?_
          refine va_get (D := E.1) (ci := 12) (v := .ref (q 55)) (C := RX12) (T := TX12) (N := 59) hx hb hts inX12 hown hK hP 0 rfl rfl 55 (by decide) fl142 (fun _ h9 => h9) rfl dX12_give_57 ?_
          refine lv_iload hx hb dX12_give_60 (lv_at hl 0 rfl) ?_
          refine va_iald hx hb hK hP 2 0 rfl rfl (show vp_in 2 4 from by unfold vp_in; decide) dX12_give_62 ?_
          refine lv_topi (fun x_183 ex_183 => ?_)
          obtain rfl : x_183 = nI w_175 := ex_183.trans ex_173.symm
          refine lv_iadd hx hb dX12_give_63 ?_
          refine lv_topi (fun x_184 ex_184 => ?_)
          obtain rfl : x_184 = nI (256 + w_175) := ex_184.trans (nI_add 256 w_175)
          refine va_iald hx hb hK hP 1 0 rfl rfl hi_179 dX12_give_64 ?_
          refine lv_topi (fun x_185 ex_185 => ?_)
          refine lv_iadd hx hb dX12_give_65 ?_
          refine lv_topi (fun x_186 ex_186 => ?_)
          have hc29 := cost_nx (c := 2) (c2 := 3) hc19 (x := x_185) (co2 := x_186) ((by rw [ex_185, nI_clamp (by omega)]; exact (hKm 2 (by decide) w_175 (by omega)).2 hn29 : x_185.toInt = CC 2 w_175).trans (by rw [hw29])) (hCb 2 (by decide) _ hk2) ex_186 rfl (by decide)
          refine lv_istore_n (lv' := [(3, .int x_186), (4, .int 2), (0, .ref h0), (2, .int (nI n_171))]) hx hb dX12_give_66 rfl hl (by decide) rfl (fun ls hl => ?_)
          refine lv_aload_n hx hb dX12_give_67 rfl (lv_at hl 2 rfl) ?_
          refine va_get (D := E.1) (ci := 12) (v := .ref (q 55)) (C := RX12) (T := TX12) (N := 59) hx hb hts inX12 hown hK hP 0 rfl rfl 55 (by decide) fl142 (fun _ h9 => h9) rfl dX12_give_68 ?_
          refine lv_iload hx hb dX12_give_71 (lv_at hl 1 rfl) ?_
          refine va_iald hx hb hK hP 2 0 rfl rfl (show vp_in 2 4 from by unfold vp_in; decide) dX12_give_73 ?_
          refine lv_topi (fun x_187 ex_187 => ?_)
          obtain rfl : x_187 = nI w_175 := ex_187.trans ex_173.symm
          refine lv_istore (lv' := [(5, .int (nI w_175)), (3, .int x_186), (4, .int 2), (0, .ref h0), (2, .int (nI n_171))]) hx hb dX12_give_74 hl (by decide) rfl (fun ls hl => ?_)
          have hPl := hP.sub (ws' := [(h0, .inr (12, mG q i_taped i_size i_sort i_what i_at i_end i_worth i_faultKind i_faultPlace i_got i_worked (nI dl) i_isPlanned i_bestDone i_bestCost)), (q 51, .inl (E.2.1 0, 512, .inl a_least)), (q 55, .inl (E.2.1 0, 4, .inl a_sets)), (q 54, .inl (E.2.1 0, 7, .inl a_bestGiven)), (q 53, .inl (E.2.1 0, 7, .inl a_given))]) [0, 1, 2, 3, 4] rfl
          have hDl := hD.sub (ws' := [(h0, .inr (12, mG q i_taped i_size i_sort i_what i_at i_end i_worth i_faultKind i_faultPlace i_got i_worked (nI dl) i_isPlanned i_bestDone i_bestCost)), (q 51, .inl (E.2.1 0, 512, .inl a_least)), (q 55, .inl (E.2.1 0, 4, .inl a_sets)), (q 54, .inl (E.2.1 0, 7, .inl a_bestGiven)), (q 53, .inl (E.2.1 0, 7, .inl a_given))]) [0, 1, 2, 3, 4] (by decide) rfl
          refine lm_bits E h0 q i_taped i_size i_sort i_what i_at i_end i_worth i_faultKind i_faultPlace i_got i_worked i_isPlanned i_bestDone i_bestCost dl (n_171 + pc7 w_175) x_186 2 ([(q 51, .inl (E.2.1 0, 512, .inl a_least)), (q 55, .inl (E.2.1 0, 4, .inl a_sets)), (q 54, .inl (E.2.1 0, 7, .inl a_bestGiven)), (q 53, .inl (E.2.1 0, 7, .inl a_given))]) hx hb hml hown hts hkn hst hA  (fun n_188 H locs ls hm hP hD hS hl => ?_) (w_175 + 1) w_175 n_171 _ _ _ (Nat.lt_succ_self _) (by omega) rfl hPl hDl hS (lv_sub hl [3, 4, 1, 2, 0] rfl)
          have hP : va_P E.1 vwCl [(h0, .inr (12, mG q i_taped i_size i_sort i_what i_at i_end i_worth i_faultKind i_faultPlace i_got i_worked (nI dl) i_isPlanned i_bestDone i_bestCost)), (q 51, .inl (E.2.1 0, 512, .inl a_least)), (q 55, .inl (E.2.1 0, 4, .inl a_sets)), (q 54, .inl (E.2.1 0, 7, .inl a_bestGiven)), (q 53, .inl (E.2.1 0, 7, .inl a_given))] H := hP
          have hD : va_D A [(h0, .inr (12, mG q i_taped i_size i_sort i_what i_at i_end i_worth i_faultKind i_faultPlace i_got i_worked (nI dl) i_isPlanned i_bestDone i_bestCost)), (q 51, .inl (E.2.1 0, 512, .inl a_least)), (q 55, .inl (E.2.1 0, 4, .inl a_sets)), (q 54, .inl (E.2.1 0, 7, .inl a_bestGiven)), (q 53, .inl (E.2.1 0, 7, .inl a_given))] := hD
          have hm2 := hm
          refine lv_iinc (v := 3) (lv' := [(4, .int 3), (0, .ref h0), (2, .int (nI n_188)), (3, .int x_186)]) hx hb dX12_give_96 hl (k := 3) rfl (by decide) (by decide) rfl (fun ls hl => ?_)
          refine lv_goto (tgt := 15) hx hb dX12_give_99 (by decide) ?_
          refine lv_iload hx hb dX12_give_15 (lv_at hl 0 rfl) ?_
          refine lv_iconst (v := 4) hx hb dX12_give_17 (by decide) ?_
          refine lv_icmp_ge (tgt := 102) hx hb dX12_give_18 (by decide) (fun c9 => absurd c9 (by decide)) (fun _ => ?_)
          refine lv_aload_n hx hb dX12_give_21 rfl (lv_at hl 1 rfl) ?_
          refine va_get (D := E.1) (ci := 12) (v := .ref (q 51)) (C := RX12) (T := TX12) (N := 59) hx hb hts inX12 hown hK hP 0 rfl rfl 51 (by decide) fl130 (fun _ h9 => h9) rfl dX12_give_22 ?_
          refine lv_sipush (v := 128) hx hb dX12_give_25 (by decide) ?_
          refine lv_iload hx hb dX12_give_28 (lv_at hl 0 rfl) ?_
          refine lv_imul hx hb dX12_give_30 ?_
          refine lv_topi (fun x_189 ex_189 => ?_)
          obtain rfl : x_189 = 384 := ex_189.trans (by decide +kernel)
          refine lv_aload_n hx hb dX12_give_31 rfl (lv_at hl 1 rfl) ?_
          refine va_get (D := E.1) (ci := 12) (v := .ref (q 55)) (C := RX12) (T := TX12) (N := 59) hx hb hts inX12 hown hK hP 0 rfl rfl 55 (by decide) fl142 (fun _ h9 => h9) rfl dX12_give_32 ?_
          refine lv_iload hx hb dX12_give_35 (lv_at hl 0 rfl) ?_
          refine va_iald hx hb hK hP 2 0 rfl rfl (show vp_in 3 4 from by unfold vp_in; decide) dX12_give_37 ?_
          refine lv_topi (fun x_190 ex_190 => ?_)
          have hv_191 : inR x_190 0 127 = true := by rw [ex_190]; exact hI_sets _ (vin_cl (show vp_in 3 4 from by unfold vp_in; decide))
          obtain ⟨w_192, hw_193, ew_194⟩ := inR_nI (n := 127) (by decide) hv_191
          subst ew_194
          have hw39 : w_192 = setOf gp 3 dl := by rw [hn9]; exact nI_inj (by omega) (s128 gp 3 (by decide)) (ex_190.trans (by rw [show Int32.toNatClampNeg 3 = 3 from by decide]; exact hSt 3 (by decide)))
          refine lv_iadd hx hb dX12_give_38 ?_
          refine lv_topi (fun x_195 ex_195 => ?_)
          obtain rfl : x_195 = nI (384 + w_192) := ex_195.trans (nI_add 384 w_192)
          have hi_196 : vp_in (nI (384 + w_192)) 512 := vp_in_nI (by omega) (by decide)
          refine va_iald hx hb hK hP 1 0 rfl rfl hi_196 dX12_give_39 ?_
          refine lv_topi (fun x_197 ex_197 => ?_)
          refine lv_iconst (v := (-1)) hx hb dX12_give_40 (by decide) ?_
          refine lv_icmp_ne (tgt := 45) hx hb dX12_give_41 (by decide) (fun c_198 => ?_) (fun c_198 => ?_)
          · have hn39 : ¬ a_least (128 * 3 + w_192) = -1 := fun q9 => c_198 (ex_197.trans (by rw [nI_clamp (by omega)]; exact q9))
            have hk3 : FF 3 (setOf gp 3 dl) := by rw [← hw39]; exact (hKm 3 (by decide) w_192 (by omega)).1.mp hn39
            refine lv_iload_n hx hb dX12_give_45 rfl (lv_at hl 3 rfl) ?_
            refine lv_aload_n hx hb dX12_give_46 rfl (lv_at hl 1 rfl) ?_
            refine va_get (D := E.1) (ci := 12) (v := .ref (q 51)) (C := RX12) (T := TX12) (N := 59) hx hb hts inX12 hown hK hP 0 rfl rfl 51 (by decide) fl130 (fun _ h9 => h9) rfl dX12_give_47 ?_
            refine lv_sipush (v := 128) hx hb dX12_give_50 (by decide) ?_
            refine lv_iload hx hb dX12_give_53 (lv_at hl 0 rfl) ?_
            refine lv_imul hx hb dX12_give_55 ?_
            refine lv_topi (fun x_199 ex_199 => ?_)
            obtain rfl : x_199 = 384 := ex_199.trans (by decide +kernel)
            refine lv_aload_n hx hb dX12_give_56 rfl (lv_at hl 1 rfl) ?_
            refine va_get (D := E.1) (ci := 12) (v := .ref (q 55)) (C := RX12) (T := TX12) (N := 59) hx hb hts inX12 hown hK hP 0 rfl rfl 55 (by decide) fl142 (fun _ h9 => h9) rfl dX12_give_57 ?_
            refine lv_iload hx hb dX12_give_60 (lv_at hl 0 rfl) ?_
            refine va_iald hx hb hK hP 2 0 rfl rfl (show vp_in 3 4 from by unfold vp_in; decide) dX12_give_62 ?_
            refine lv_topi (fun x_200 ex_200 => ?_)
            obtain rfl : x_200 = nI w_192 := ex_200.trans ex_190.symm
            refine lv_iadd hx hb dX12_give_63 ?_
            refine lv_topi (fun x_201 ex_201 => ?_)
            obtain rfl : x_201 = nI (384 + w_192) := ex_201.trans (nI_add 384 w_192)
            refine va_iald hx hb hK hP 1 0 rfl rfl hi_196 dX12_give_64 ?_
            refine lv_topi (fun x_202 ex_202 => ?_)
            refine lv_iadd hx hb dX12_give_65 ?_
            refine lv_topi (fun x_203 ex_203 => ?_)
            have hc39 := cost_nx (c := 3) (c2 := 4) hc29 (x := x_202) (co2 := x_203) ((by rw [ex_202, nI_clamp (by omega)]; exact (hKm 3 (by decide) w_192 (by omega)).2 hn39 : x_202.toInt = CC 3 w_192).trans (by rw [hw39])) (hCb 3 (by decide) _ hk3) ex_203 rfl (by decide)
            refine lv_istore_n (lv' := [(3, .int x_203), (4, .int 3), (0, .ref h0), (2, .int (nI n_188))]) hx hb dX12_give_66 rfl hl (by decide) rfl (fun ls hl => ?_)
            refine lv_aload_n hx hb dX12_give_67 rfl (lv_at hl 2 rfl) ?_
            refine va_get (D := E.1) (ci := 12) (v := .ref (q 55)) (C := RX12) (T := TX12) (N := 59) hx hb hts inX12 hown hK hP 0 rfl rfl 55 (by decide) fl142 (fun _ h9 => h9) rfl dX12_give_68 ?_
            refine lv_iload hx hb dX12_give_71 (lv_at hl 1 rfl) ?_
            refine va_iald hx hb hK hP 2 0 rfl rfl (show vp_in 3 4 from by unfold vp_in; decide) dX12_give_73 ?_
            refine lv_topi (fun x_204 ex_204 => ?_)
            obtain rfl : x_204 = nI w_192 := ex_204.trans ex_190.symm
            refine lv_istore (lv' := [(5, .int (nI w_192)), (3, .int x_203), (4, .int 3), (0, .ref h0), (2, .int (nI n_188))]) hx hb dX12_give_74 hl (by decide) rfl (fun ls hl => ?_)
            have hPl := hP.sub (ws' := [(h0, .inr (12, mG q i_taped i_size i_sort i_what i_at i_end i_worth i_faultKind i_faultPlace i_got i_worked (nI dl) i_isPlanned i_bestDone i_bestCost)), (q 51, .inl (E.2.1 0, 512, .inl a_least)), (q 55, .inl (E.2.1 0, 4, .inl a_sets)), (q 54, .inl (E.2.1 0, 7, .inl a_bestGiven)), (q 53, .inl (E.2.1 0, 7, .inl a_given))]) [0, 1, 2, 3, 4] rfl
            have hDl := hD.sub (ws' := [(h0, .inr (12, mG q i_taped i_size i_sort i_what i_at i_end i_worth i_faultKind i_faultPlace i_got i_worked (nI dl) i_isPlanned i_bestDone i_bestCost)), (q 51, .inl (E.2.1 0, 512, .inl a_least)), (q 55, .inl (E.2.1 0, 4, .inl a_sets)), (q 54, .inl (E.2.1 0, 7, .inl a_bestGiven)), (q 53, .inl (E.2.1 0, 7, .inl a_given))]) [0, 1, 2, 3, 4] (by decide) rfl
            refine lm_bits E h0 q i_taped i_size i_sort i_what i_at i_end i_worth i_faultKind i_faultPlace i_got i_worked i_isPlanned i_bestDone i_bestCost dl (n_188 + pc7 w_192) x_203 3 ([(q 51, .inl (E.2.1 0, 512, .inl a_least)), (q 55, .inl (E.2.1 0, 4, .inl a_sets)), (q 54, .inl (E.2.1 0, 7, .inl a_bestGiven)), (q 53, .inl (E.2.1 0, 7, .inl a_given))]) hx hb hml hown hts hkn hst hA  (fun n_205 H locs ls hm hP hD hS hl => ?_) (w_192 + 1) w_192 n_188 _ _ _ (Nat.lt_succ_self _) (by omega) rfl hPl hDl hS (lv_sub hl [3, 4, 1, 2, 0] rfl)
            have hP : va_P E.1 vwCl [(h0, .inr (12, mG q i_taped i_size i_sort i_what i_at i_end i_worth i_faultKind i_faultPlace i_got i_worked (nI dl) i_isPlanned i_bestDone i_bestCost)), (q 51, .inl (E.2.1 0, 512, .inl a_least)), (q 55, .inl (E.2.1 0, 4, .inl a_sets)), (q 54, .inl (E.2.1 0, 7, .inl a_bestGiven)), (q 53, .inl (E.2.1 0, 7, .inl a_given))] H := hP
            have hD : va_D A [(h0, .inr (12, mG q i_taped i_size i_sort i_what i_at i_end i_worth i_faultKind i_faultPlace i_got i_worked (nI dl) i_isPlanned i_bestDone i_bestCost)), (q 51, .inl (E.2.1 0, 512, .inl a_least)), (q 55, .inl (E.2.1 0, 4, .inl a_sets)), (q 54, .inl (E.2.1 0, 7, .inl a_bestGiven)), (q 53, .inl (E.2.1 0, 7, .inl a_given))] := hD
            have hm3 := hm
            refine lv_iinc (v := 4) (lv' := [(4, .int 4), (0, .ref h0), (2, .int (nI n_205)), (3, .int x_203)]) hx hb dX12_give_96 hl (k := 3) rfl (by decide) (by decide) rfl (fun ls hl => ?_)
            refine lv_goto (tgt := 15) hx hb dX12_give_99 (by decide) ?_
            refine lv_iload hx hb dX12_give_15 (lv_at hl 0 rfl) ?_
            refine lv_iconst (v := 4) hx hb dX12_give_17 (by decide) ?_
            refine lv_icmp_ge (tgt := 102) hx hb dX12_give_18 (by decide) (fun _ => ?_) (fun c9 => absurd c9 (by decide))
            have p70 := pc7_le w_141 (by omega)
            have p71 := pc7_le w_158 (by omega)
            have p72 := pc7_le w_175 (by omega)
            have p73 := pc7_le w_192 (by omega)
            have hcn9 : n_205 = cnt gp dl := by rw [← pc_sum gp dl hdl, ← hw09, ← hw19, ← hw29, ← hw39]; omega
            refine lv_iload_n hx hb dX12_give_102 rfl (lv_at hl 2 rfl) ?_
            refine lv_aload_n hx hb dX12_give_103 rfl (lv_at hl 1 rfl) ?_
            refine va_get (D := E.1) (ci := 12) (v := .int i_bestDone) (C := RX12) (T := TX12) (N := 59) hx hb hts inX12 hown hK hP 0 rfl rfl 57 (by decide) fl300 (fun _ h9 => h9) rfl dX12_give_104 ?_
            refine lv_icmp_lt (tgt := 126) hx hb dX12_give_107 (by decide) (fun c_206 => ?_) (fun c_206 => ?_)
            · have hP9 := hP.sub (ws' := [(h0, .inr (12, mG q i_taped i_size i_sort i_what i_at i_end i_worth i_faultKind i_faultPlace i_got i_worked (nI dl) i_isPlanned i_bestDone i_bestCost)), (q 51, .inl (E.2.1 0, 512, .inl a_least)), (q 55, .inl (E.2.1 0, 4, .inl a_sets)), (q 54, .inl (E.2.1 0, 7, .inl a_bestGiven)), (q 53, .inl (E.2.1 0, 7, .inl a_given))]) [0, 1, 2, 3, 4] rfl
              have hD9 := hD.sub (ws' := [(h0, .inr (12, mG q i_taped i_size i_sort i_what i_at i_end i_worth i_faultKind i_faultPlace i_got i_worked (nI dl) i_isPlanned i_bestDone i_bestCost)), (q 51, .inl (E.2.1 0, 512, .inl a_least)), (q 55, .inl (E.2.1 0, 4, .inl a_sets)), (q 54, .inl (E.2.1 0, 7, .inl a_bestGiven)), (q 53, .inl (E.2.1 0, 7, .inl a_given))]) [0, 1, 2, 3, 4] (by decide) rfl
              exact W.vret hx hb hr (fun t ht hW => ⟨⟨(i_bestDone, i_bestCost, a_sets, a_bestGiven, a_given), rfl, (BG_post hn9 (BG_old hdl hp9 (Or.inl (by rw [← hcn9]; exact gx_lt (by omega) c_206)) hB9)), hI_sets, (fun i hi => rfl), (fun k hk => rfl), by rw [ht]; exact hP9, hD9⟩, hS.F ht⟩) hS.2.2 dX12_give_126
            · refine lv_iload_n hx hb dX12_give_110 rfl (lv_at hl 2 rfl) ?_
              refine lv_aload_n hx hb dX12_give_111 rfl (lv_at hl 1 rfl) ?_
              refine va_get (D := E.1) (ci := 12) (v := .int i_bestDone) (C := RX12) (T := TX12) (N := 59) hx hb hts inX12 hown hK hP 0 rfl rfl 57 (by decide) fl300 (fun _ h9 => h9) rfl dX12_give_112 ?_
              refine lv_icmp_ne (tgt := 127) hx hb dX12_give_115 (by decide) (fun c_207 => ?_) (fun c_207 => ?_)
              · refine lv_aload_n hx hb dX12_give_127 rfl (lv_at hl 1 rfl) ?_
                refine lv_iload_n hx hb dX12_give_128 rfl (lv_at hl 2 rfl) ?_
                refine va_put (D := E.1) (ci := 12) (v := .int (nI n_205)) (ty := .int) (C := RX12) (T := TX12) (N := 59) hx hb hts inX12 tyX12 tyX12_ok nmX12 hown hK hP hD hS 0 rfl rfl 57 (by decide) fl300 (fun _ h9 => h9) rfl (by decide +kernel) rfl rfl (Nat.le_of_ble_eq_true rfl) dX12_give_129 (fun H locs hP hD hS => ?_)
                have hP : va_P E.1 vwCl [(h0, .inr (12, mG q i_taped i_size i_sort i_what i_at i_end i_worth i_faultKind i_faultPlace i_got i_worked (nI dl) i_isPlanned (nI n_205) i_bestCost)), (q 51, .inl (E.2.1 0, 512, .inl a_least)), (q 55, .inl (E.2.1 0, 4, .inl a_sets)), (q 54, .inl (E.2.1 0, 7, .inl a_bestGiven)), (q 53, .inl (E.2.1 0, 7, .inl a_given))] H := hP
                have hD : va_D A [(h0, .inr (12, mG q i_taped i_size i_sort i_what i_at i_end i_worth i_faultKind i_faultPlace i_got i_worked (nI dl) i_isPlanned (nI n_205) i_bestCost)), (q 51, .inl (E.2.1 0, 512, .inl a_least)), (q 55, .inl (E.2.1 0, 4, .inl a_sets)), (q 54, .inl (E.2.1 0, 7, .inl a_bestGiven)), (q 53, .inl (E.2.1 0, 7, .inl a_given))] := hD
                refine lv_aload_n hx hb dX12_give_132 rfl (lv_at hl 1 rfl) ?_
                refine lv_iload_n hx hb dX12_give_133 rfl (lv_at hl 3 rfl) ?_
                refine va_put (D := E.1) (ci := 12) (v := .int x_203) (ty := .int) (C := RX12) (T := TX12) (N := 59) hx hb hts inX12 tyX12 tyX12_ok nmX12 hown hK hP hD hS 0 rfl rfl 58 (by decide) fl303 (fun _ h9 => h9) rfl (by decide +kernel) rfl rfl (Nat.le_of_ble_eq_true rfl) dX12_give_134 (fun H locs hP hD hS => ?_)
                have hP : va_P E.1 vwCl [(h0, .inr (12, mG q i_taped i_size i_sort i_what i_at i_end i_worth i_faultKind i_faultPlace i_got i_worked (nI dl) i_isPlanned (nI n_205) x_203)), (q 51, .inl (E.2.1 0, 512, .inl a_least)), (q 55, .inl (E.2.1 0, 4, .inl a_sets)), (q 54, .inl (E.2.1 0, 7, .inl a_bestGiven)), (q 53, .inl (E.2.1 0, 7, .inl a_given))] H := hP
                have hD : va_D A [(h0, .inr (12, mG q i_taped i_size i_sort i_what i_at i_end i_worth i_faultKind i_faultPlace i_got i_worked (nI dl) i_isPlanned (nI n_205) x_203)), (q 51, .inl (E.2.1 0, 512, .inl a_least)), (q 55, .inl (E.2.1 0, 4, .inl a_sets)), (q 54, .inl (E.2.1 0, 7, .inl a_bestGiven)), (q 53, .inl (E.2.1 0, 7, .inl a_given))] := hD
                refine lv_iconst (v := 0) hx hb dX12_give_137 (by decide) ?_
                refine lv_istore (lv' := [(4, .int 0), (0, .ref h0), (2, .int (nI n_205)), (3, .int x_203)]) hx hb dX12_give_138 hl (by decide) rfl (fun ls hl => ?_)
                have hPl := hP.sub (ws' := [(h0, .inr (12, mG q i_taped i_size i_sort i_what i_at i_end i_worth i_faultKind i_faultPlace i_got i_worked (nI dl) i_isPlanned (nI n_205) x_203)), (q 53, .inl (E.2.1 0, 7, .inl a_given)), (q 54, .inl (E.2.1 0, 7, .inl a_bestGiven)), (q 51, .inl (E.2.1 0, 512, .inl a_least)), (q 55, .inl (E.2.1 0, 4, .inl a_sets))]) [0, 4, 3, 1, 2] rfl
                have hDl := hD.sub (ws' := [(h0, .inr (12, mG q i_taped i_size i_sort i_what i_at i_end i_worth i_faultKind i_faultPlace i_got i_worked (nI dl) i_isPlanned (nI n_205) x_203)), (q 53, .inl (E.2.1 0, 7, .inl a_given)), (q 54, .inl (E.2.1 0, 7, .inl a_bestGiven)), (q 51, .inl (E.2.1 0, 512, .inl a_least)), (q 55, .inl (E.2.1 0, 4, .inl a_sets))]) [0, 4, 3, 1, 2] (by decide) rfl
                refine lm_copy E h0 q i_taped i_size i_sort i_what i_at i_end i_worth i_faultKind i_faultPlace i_got i_worked i_isPlanned (nI n_205) x_203 dl a_given ([(q 51, .inl (E.2.1 0, 512, .inl a_least)), (q 55, .inl (E.2.1 0, 4, .inl a_sets))]) hx hb hml hown hts hkn hst hA (by omega) (fun n_208 H locs ls hcp hP hD hS hl => ?_) 9 0 a_bestGiven _ _ _ (by omega) (by omega) (fun j hj => absurd hj (Nat.not_lt_zero j)) hPl hDl hS (lv_sub hl [1, 0] rfl)
                have hP : va_P E.1 vwCl [(h0, .inr (12, mG q i_taped i_size i_sort i_what i_at i_end i_worth i_faultKind i_faultPlace i_got i_worked (nI dl) i_isPlanned (nI n_205) x_203)), (q 53, .inl (E.2.1 0, 7, .inl a_given)), (q 54, .inl (E.2.1 0, 7, .inl n_208)), (q 51, .inl (E.2.1 0, 512, .inl a_least)), (q 55, .inl (E.2.1 0, 4, .inl a_sets))] H := hP
                have hD : va_D A [(h0, .inr (12, mG q i_taped i_size i_sort i_what i_at i_end i_worth i_faultKind i_faultPlace i_got i_worked (nI dl) i_isPlanned (nI n_205) x_203)), (q 53, .inl (E.2.1 0, 7, .inl a_given)), (q 54, .inl (E.2.1 0, 7, .inl n_208)), (q 51, .inl (E.2.1 0, 512, .inl a_least)), (q 55, .inl (E.2.1 0, 4, .inl a_sets))] := hD
                have hP9 := hP.sub (ws' := [(h0, .inr (12, mG q i_taped i_size i_sort i_what i_at i_end i_worth i_faultKind i_faultPlace i_got i_worked (nI dl) i_isPlanned (nI n_205) x_203)), (q 51, .inl (E.2.1 0, 512, .inl a_least)), (q 55, .inl (E.2.1 0, 4, .inl a_sets)), (q 54, .inl (E.2.1 0, 7, .inl n_208)), (q 53, .inl (E.2.1 0, 7, .inl a_given))]) [0, 3, 4, 2, 1] rfl
                have hD9 := hD.sub (ws' := [(h0, .inr (12, mG q i_taped i_size i_sort i_what i_at i_end i_worth i_faultKind i_faultPlace i_got i_worked (nI dl) i_isPlanned (nI n_205) x_203)), (q 51, .inl (E.2.1 0, 512, .inl a_least)), (q 55, .inl (E.2.1 0, 4, .inl a_sets)), (q 54, .inl (E.2.1 0, 7, .inl n_208)), (q 53, .inl (E.2.1 0, 7, .inl a_given))]) [0, 3, 4, 2, 1] (by decide) rfl
                exact W.vret hx hb hr (fun t ht hW => ⟨⟨(nI n_205, x_203, a_sets, n_208, a_given), rfl, (BG_post hn9 (BG_new hdl hp9 (F4_all hk0 hk1 hk2 hk3) (Or.inl (by rw [← hcn9]; exact gx_gt (by omega) c_206 c_207)) (by rw [← hcn9]) hc39.1 (fun j hj => (hcp j hj).trans (hGv j (by omega))) hB9)), hI_sets, (fun i hi => rfl), (fun k hk => rfl), by rw [ht]; exact hP9, hD9⟩, hS.F ht⟩) hS.2.2 dX12_give_169
              · refine lv_iload_n hx hb dX12_give_118 rfl (lv_at hl 3 rfl) ?_
                refine lv_aload_n hx hb dX12_give_119 rfl (lv_at hl 1 rfl) ?_
                refine va_get (D := E.1) (ci := 12) (v := .int i_bestCost) (C := RX12) (T := TX12) (N := 59) hx hb hts inX12 hown hK hP 0 rfl rfl 58 (by decide) fl303 (fun _ h9 => h9) rfl dX12_give_120 ?_
                refine lv_icmp_lt (tgt := 127) hx hb dX12_give_123 (by decide) (fun c_209 => ?_) (fun c_209 => ?_)
                · refine lv_aload_n hx hb dX12_give_127 rfl (lv_at hl 1 rfl) ?_
                  refine lv_iload_n hx hb dX12_give_128 rfl (lv_at hl 2 rfl) ?_
                  refine va_put (D := E.1) (ci := 12) (v := .int (nI n_205)) (ty := .int) (C := RX12) (T := TX12) (N := 59) hx hb hts inX12 tyX12 tyX12_ok nmX12 hown hK hP hD hS 0 rfl rfl 57 (by decide) fl300 (fun _ h9 => h9) rfl (by decide +kernel) rfl rfl (Nat.le_of_ble_eq_true rfl) dX12_give_129 (fun H locs hP hD hS => ?_)
                  have hP : va_P E.1 vwCl [(h0, .inr (12, mG q i_taped i_size i_sort i_what i_at i_end i_worth i_faultKind i_faultPlace i_got i_worked (nI dl) i_isPlanned (nI n_205) i_bestCost)), (q 51, .inl (E.2.1 0, 512, .inl a_least)), (q 55, .inl (E.2.1 0, 4, .inl a_sets)), (q 54, .inl (E.2.1 0, 7, .inl a_bestGiven)), (q 53, .inl (E.2.1 0, 7, .inl a_given))] H := hP
                  have hD : va_D A [(h0, .inr (12, mG q i_taped i_size i_sort i_what i_at i_end i_worth i_faultKind i_faultPlace i_got i_worked (nI dl) i_isPlanned (nI n_205) i_bestCost)), (q 51, .inl (E.2.1 0, 512, .inl a_least)), (q 55, .inl (E.2.1 0, 4, .inl a_sets)), (q 54, .inl (E.2.1 0, 7, .inl a_bestGiven)), (q 53, .inl (E.2.1 0, 7, .inl a_given))] := hD
                  refine lv_aload_n hx hb dX12_give_132 rfl (lv_at hl 1 rfl) ?_
                  refine lv_iload_n hx hb dX12_give_133 rfl (lv_at hl 3 rfl) ?_
                  refine va_put (D := E.1) (ci := 12) (v := .int x_203) (ty := .int) (C := RX12) (T := TX12) (N := 59) hx hb hts inX12 tyX12 tyX12_ok nmX12 hown hK hP hD hS 0 rfl rfl 58 (by decide) fl303 (fun _ h9 => h9) rfl (by decide +kernel) rfl rfl (Nat.le_of_ble_eq_true rfl) dX12_give_134 (fun H locs hP hD hS => ?_)
                  have hP : va_P E.1 vwCl [(h0, .inr (12, mG q i_taped i_size i_sort i_what i_at i_end i_worth i_faultKind i_faultPlace i_got i_worked (nI dl) i_isPlanned (nI n_205) x_203)), (q 51, .inl (E.2.1 0, 512, .inl a_least)), (q 55, .inl (E.2.1 0, 4, .inl a_sets)), (q 54, .inl (E.2.1 0, 7, .inl a_bestGiven)), (q 53, .inl (E.2.1 0, 7, .inl a_given))] H := hP
                  have hD : va_D A [(h0, .inr (12, mG q i_taped i_size i_sort i_what i_at i_end i_worth i_faultKind i_faultPlace i_got i_worked (nI dl) i_isPlanned (nI n_205) x_203)), (q 51, .inl (E.2.1 0, 512, .inl a_least)), (q 55, .inl (E.2.1 0, 4, .inl a_sets)), (q 54, .inl (E.2.1 0, 7, .inl a_bestGiven)), (q 53, .inl (E.2.1 0, 7, .inl a_given))] := hD
                  refine lv_iconst (v := 0) hx hb dX12_give_137 (by decide) ?_
                  refine lv_istore (lv' := [(4, .int 0), (0, .ref h0), (2, .int (nI n_205)), (3, .int x_203)]) hx hb dX12_give_138 hl (by decide) rfl (fun ls hl => ?_)
                  have hPl := hP.sub (ws' := [(h0, .inr (12, mG q i_taped i_size i_sort i_what i_at i_end i_worth i_faultKind i_faultPlace i_got i_worked (nI dl) i_isPlanned (nI n_205) x_203)), (q 53, .inl (E.2.1 0, 7, .inl a_given)), (q 54, .inl (E.2.1 0, 7, .inl a_bestGiven)), (q 51, .inl (E.2.1 0, 512, .inl a_least)), (q 55, .inl (E.2.1 0, 4, .inl a_sets))]) [0, 4, 3, 1, 2] rfl
                  have hDl := hD.sub (ws' := [(h0, .inr (12, mG q i_taped i_size i_sort i_what i_at i_end i_worth i_faultKind i_faultPlace i_got i_worked (nI dl) i_isPlanned (nI n_205) x_203)), (q 53, .inl (E.2.1 0, 7, .inl a_given)), (q 54, .inl (E.2.1 0, 7, .inl a_bestGiven)), (q 51, .inl (E.2.1 0, 512, .inl a_least)), (q 55, .inl (E.2.1 0, 4, .inl a_sets))]) [0, 4, 3, 1, 2] (by decide) rfl
                  refine lm_copy E h0 q i_taped i_size i_sort i_what i_at i_end i_worth i_faultKind i_faultPlace i_got i_worked i_isPlanned (nI n_205) x_203 dl a_given ([(q 51, .inl (E.2.1 0, 512, .inl a_least)), (q 55, .inl (E.2.1 0, 4, .inl a_sets))]) hx hb hml hown hts hkn hst hA (by omega) (fun n_210 H locs ls hcp hP hD hS hl => ?_) 9 0 a_bestGiven _ _ _ (by omega) (by omega) (fun j hj => absurd hj (Nat.not_lt_zero j)) hPl hDl hS (lv_sub hl [1, 0] rfl)
                  have hP : va_P E.1 vwCl [(h0, .inr (12, mG q i_taped i_size i_sort i_what i_at i_end i_worth i_faultKind i_faultPlace i_got i_worked (nI dl) i_isPlanned (nI n_205) x_203)), (q 53, .inl (E.2.1 0, 7, .inl a_given)), (q 54, .inl (E.2.1 0, 7, .inl n_210)), (q 51, .inl (E.2.1 0, 512, .inl a_least)), (q 55, .inl (E.2.1 0, 4, .inl a_sets))] H := hP
                  have hD : va_D A [(h0, .inr (12, mG q i_taped i_size i_sort i_what i_at i_end i_worth i_faultKind i_faultPlace i_got i_worked (nI dl) i_isPlanned (nI n_205) x_203)), (q 53, .inl (E.2.1 0, 7, .inl a_given)), (q 54, .inl (E.2.1 0, 7, .inl n_210)), (q 51, .inl (E.2.1 0, 512, .inl a_least)), (q 55, .inl (E.2.1 0, 4, .inl a_sets))] := hD
                  have hP9 := hP.sub (ws' := [(h0, .inr (12, mG q i_taped i_size i_sort i_what i_at i_end i_worth i_faultKind i_faultPlace i_got i_worked (nI dl) i_isPlanned (nI n_205) x_203)), (q 51, .inl (E.2.1 0, 512, .inl a_least)), (q 55, .inl (E.2.1 0, 4, .inl a_sets)), (q 54, .inl (E.2.1 0, 7, .inl n_210)), (q 53, .inl (E.2.1 0, 7, .inl a_given))]) [0, 3, 4, 2, 1] rfl
                  have hD9 := hD.sub (ws' := [(h0, .inr (12, mG q i_taped i_size i_sort i_what i_at i_end i_worth i_faultKind i_faultPlace i_got i_worked (nI dl) i_isPlanned (nI n_205) x_203)), (q 51, .inl (E.2.1 0, 512, .inl a_least)), (q 55, .inl (E.2.1 0, 4, .inl a_sets)), (q 54, .inl (E.2.1 0, 7, .inl n_210)), (q 53, .inl (E.2.1 0, 7, .inl a_given))]) [0, 3, 4, 2, 1] (by decide) rfl
                  exact W.vret hx hb hr (fun t ht hW => ⟨⟨(nI n_205, x_203, a_sets, n_210, a_given), rfl, (BG_post hn9 (BG_new hdl hp9 (F4_all hk0 hk1 hk2 hk3) (Or.inr ⟨(by rw [← hcn9]; exact (gx_eq (by omega) c_207).symm), (by rw [← hc39.1]; exact (ii_lt _ _).mp c_209)⟩) (by rw [← hcn9]) hc39.1 (fun j hj => (hcp j hj).trans (hGv j (by omega))) hB9)), hI_sets, (fun i hi => rfl), (fun k hk => rfl), by rw [ht]; exact hP9, hD9⟩, hS.F ht⟩) hS.2.2 dX12_give_169
                · have hP9 := hP.sub (ws' := [(h0, .inr (12, mG q i_taped i_size i_sort i_what i_at i_end i_worth i_faultKind i_faultPlace i_got i_worked (nI dl) i_isPlanned i_bestDone i_bestCost)), (q 51, .inl (E.2.1 0, 512, .inl a_least)), (q 55, .inl (E.2.1 0, 4, .inl a_sets)), (q 54, .inl (E.2.1 0, 7, .inl a_bestGiven)), (q 53, .inl (E.2.1 0, 7, .inl a_given))]) [0, 1, 2, 3, 4] rfl
                  have hD9 := hD.sub (ws' := [(h0, .inr (12, mG q i_taped i_size i_sort i_what i_at i_end i_worth i_faultKind i_faultPlace i_got i_worked (nI dl) i_isPlanned i_bestDone i_bestCost)), (q 51, .inl (E.2.1 0, 512, .inl a_least)), (q 55, .inl (E.2.1 0, 4, .inl a_sets)), (q 54, .inl (E.2.1 0, 7, .inl a_bestGiven)), (q 53, .inl (E.2.1 0, 7, .inl a_given))]) [0, 1, 2, 3, 4] (by decide) rfl
                  exact W.vret hx hb hr (fun t ht hW => ⟨⟨(i_bestDone, i_bestCost, a_sets, a_bestGiven, a_given), rfl, (BG_post hn9 (BG_old hdl hp9 (Or.inr ⟨(by rw [← hcn9]; exact gx_eq (by omega) c_207), (by rw [← hc39.1]; exact gx_le c_209)⟩) hB9)), hI_sets, (fun i hi => rfl), (fun k hk => rfl), by rw [ht]; exact hP9, hD9⟩, hS.F ht⟩) hS.2.2 dX12_give_126
          · have hP9 := hP.sub (ws' := [(h0, .inr (12, mG q i_taped i_size i_sort i_what i_at i_end i_worth i_faultKind i_faultPlace i_got i_worked (nI dl) i_isPlanned i_bestDone i_bestCost)), (q 51, .inl (E.2.1 0, 512, .inl a_least)), (q 55, .inl (E.2.1 0, 4, .inl a_sets)), (q 54, .inl (E.2.1 0, 7, .inl a_bestGiven)), (q 53, .inl (E.2.1 0, 7, .inl a_given))]) [0, 1, 2, 3, 4] rfl
            have hD9 := hD.sub (ws' := [(h0, .inr (12, mG q i_taped i_size i_sort i_what i_at i_end i_worth i_faultKind i_faultPlace i_got i_worked (nI dl) i_isPlanned i_bestDone i_bestCost)), (q 51, .inl (E.2.1 0, 512, .inl a_least)), (q 55, .inl (E.2.1 0, 4, .inl a_sets)), (q 54, .inl (E.2.1 0, 7, .inl a_bestGiven)), (q 53, .inl (E.2.1 0, 7, .inl a_given))]) [0, 1, 2, 3, 4] (by decide) rfl
            exact W.vret hx hb hr (fun t ht hW => ⟨⟨(i_bestDone, i_bestCost, a_sets, a_bestGiven, a_given), rfl, (BG_post hn9 (BG_inf hp9 (c := 3) (by decide) (fun q9 => absurd ((hKm 3 (by decide) w_192 (by omega)).1.mpr (by rw [hw39]; exact q9)) (fun r9 => r9 (by rw [← nI_clamp (n := 128 * 3 + w_192) (by omega)]; exact ex_197.symm.trans c_198))) hB9)), hI_sets, (fun i hi => rfl), (fun k hk => rfl), by rw [ht]; exact hP9, hD9⟩, hS.F ht⟩) hS.2.2 dX12_give_44
        · have hP9 := hP.sub (ws' := [(h0, .inr (12, mG q i_taped i_size i_sort i_what i_at i_end i_worth i_faultKind i_faultPlace i_got i_worked (nI dl) i_isPlanned i_bestDone i_bestCost)), (q 51, .inl (E.2.1 0, 512, .inl a_least)), (q 55, .inl (E.2.1 0, 4, .inl a_sets)), (q 54, .inl (E.2.1 0, 7, .inl a_bestGiven)), (q 53, .inl (E.2.1 0, 7, .inl a_given))]) [0, 1, 2, 3, 4] rfl
          have hD9 := hD.sub (ws' := [(h0, .inr (12, mG q i_taped i_size i_sort i_what i_at i_end i_worth i_faultKind i_faultPlace i_got i_worked (nI dl) i_isPlanned i_bestDone i_bestCost)), (q 51, .inl (E.2.1 0, 512, .inl a_least)), (q 55, .inl (E.2.1 0, 4, .inl a_sets)), (q 54, .inl (E.2.1 0, 7, .inl a_bestGiven)), (q 53, .inl (E.2.1 0, 7, .inl a_given))]) [0, 1, 2, 3, 4] (by decide) rfl
          exact W.vret hx hb hr (fun t ht hW => ⟨⟨(i_bestDone, i_bestCost, a_sets, a_bestGiven, a_given), rfl, (BG_post hn9 (BG_inf hp9 (c := 2) (by decide) (fun q9 => absurd ((hKm 2 (by decide) w_175 (by omega)).1.mpr (by rw [hw29]; exact q9)) (fun r9 => r9 (by rw [← nI_clamp (n := 128 * 2 + w_175) (by omega)]; exact ex_180.symm.trans c_181))) hB9)), hI_sets, (fun i hi => rfl), (fun k hk => rfl), by rw [ht]; exact hP9, hD9⟩, hS.F ht⟩) hS.2.2 dX12_give_44
      · have hP9 := hP.sub (ws' := [(h0, .inr (12, mG q i_taped i_size i_sort i_what i_at i_end i_worth i_faultKind i_faultPlace i_got i_worked (nI dl) i_isPlanned i_bestDone i_bestCost)), (q 51, .inl (E.2.1 0, 512, .inl a_least)), (q 55, .inl (E.2.1 0, 4, .inl a_sets)), (q 54, .inl (E.2.1 0, 7, .inl a_bestGiven)), (q 53, .inl (E.2.1 0, 7, .inl a_given))]) [0, 1, 2, 3, 4] rfl
        have hD9 := hD.sub (ws' := [(h0, .inr (12, mG q i_taped i_size i_sort i_what i_at i_end i_worth i_faultKind i_faultPlace i_got i_worked (nI dl) i_isPlanned i_bestDone i_bestCost)), (q 51, .inl (E.2.1 0, 512, .inl a_least)), (q 55, .inl (E.2.1 0, 4, .inl a_sets)), (q 54, .inl (E.2.1 0, 7, .inl a_bestGiven)), (q 53, .inl (E.2.1 0, 7, .inl a_given))]) [0, 1, 2, 3, 4] (by decide) rfl
        exact W.vret hx hb hr (fun t ht hW => ⟨⟨(i_bestDone, i_bestCost, a_sets, a_bestGiven, a_given), rfl, (BG_post hn9 (BG_inf hp9 (c := 1) (by decide) (fun q9 => absurd ((hKm 1 (by decide) w_158 (by omega)).1.mpr (by rw [hw19]; exact q9)) (fun r9 => r9 (by rw [← nI_clamp (n := 128 * 1 + w_158) (by omega)]; exact ex_163.symm.trans c_164))) hB9)), hI_sets, (fun i hi => rfl), (fun k hk => rfl), by rw [ht]; exact hP9, hD9⟩, hS.F ht⟩) hS.2.2 dX12_give_44
    · have hP9 := hP.sub (ws' := [(h0, .inr (12, mG q i_taped i_size i_sort i_what i_at i_end i_worth i_faultKind i_faultPlace i_got i_worked (nI dl) i_isPlanned i_bestDone i_bestCost)), (q 51, .inl (E.2.1 0, 512, .inl a_least)), (q 55, .inl (E.2.1 0, 4, .inl a_sets)), (q 54, .inl (E.2.1 0, 7, .inl a_bestGiven)), (q 53, .inl (E.2.1 0, 7, .inl a_given))]) [0, 1, 2, 3, 4] rfl
      have hD9 := hD.sub (ws' := [(h0, .inr (12, mG q i_taped i_size i_sort i_what i_at i_end i_worth i_faultKind i_faultPlace i_got i_worked (nI dl) i_isPlanned i_bestDone i_bestCost)), (q 51, .inl (E.2.1 0, 512, .inl a_least)), (q 55, .inl (E.2.1 0, 4, .inl a_sets)), (q 54, .inl (E.2.1 0, 7, .inl a_bestGiven)), (q 53, .inl (E.2.1 0, 7, .inl a_given))]) [0, 1, 2, 3, 4] (by decide) rfl
      exact W.vret hx hb hr (fun t ht hW => ⟨⟨(i_bestDone, i_bestCost, a_sets, a_bestGiven, a_given), rfl, (BG_post hn9 (BG_inf hp9 (c := 0) (by decide) (fun q9 => absurd ((hKm 0 (by decide) w_141 (by omega)).1.mpr (by rw [hw09]; exact q9)) (fun r9 => r9 (by rw [← nI_clamp (n := 128 * 0 + w_141) (by omega)]; exact ex_146.symm.trans c_147))) hB9)), hI_sets, (fun i hi => rfl), (fun k hk => rfl), by rw [ht]; exact hP9, hD9⟩, hS.F ht⟩) hS.2.2 dX12_give_44
set_option maxHeartbeats 4000000 in
set_option maxRecDepth 100000 in
theorem c_X12_give1 (l : Launch) (E : vE) (h0 : Nat) (q : Nat → Nat) (i_taped : Int32) (i_size : Int32) (i_sort : Int32) (i_what : Int32) (i_at : Int32) (i_end : Int32) (i_worth : Int32) (i_faultKind : Int32) (i_faultPlace : Int32) (i_got : Int32) (i_worked : Int32) (i_isPlanned : Int32) (i_bestDone : Int32) (i_bestCost : Int32) (dl : Nat) (FF : Nat → Nat → Prop) (CC : Nat → Nat → Int) (gp : Nat → Nat) (a_least : Nat → Int32) (a_sets : Nat → Int32) (a_bestGiven : Nat → Int32) (a_given : Nat → Int32) (sz : Nat) (hdl : dl ≤ 7) (hd : 1 ≤ dl) (hp : ∀ k : Nat, k < 1 → gp k ≤ 4) (hSt : ∀ i : Nat, i < 4 → a_sets i = nI (setOf gp i 1)) (hGv : ∀ k : Nat, k < 1 → a_given k = gI (gp k)) (hBG : BG FF CC dl (hN gp 1 * 5 ^ (dl - 1)) i_bestDone i_bestCost a_bestGiven) (hKm : ∀ i : Nat, i < 4 → ∀ z : Nat, z < 128 → ((¬ a_least (128 * i + z) = -1) ↔ FF i z) ∧ ((¬ a_least (128 * i + z) = -1) → (a_least (128 * i + z)).toInt = CC i z)) (hCb : ∀ i : Nat, i < 4 → ∀ z : Nat, FF i z → 0 ≤ CC i z ∧ CC i z ≤ 70000) (hI_sets : ∀ k : Nat, k < 4 → inR (a_sets k) 0 127 = true) : Met l yX12_give wsX12_give ({ frames := 6, cells := 0, slots := 0, locals := 150 }) (pcW E [.ref h0, .int 1] sz [(h0, .inr (12, mG q i_taped i_size i_sort i_what i_at i_end i_worth i_faultKind i_faultPlace i_got i_worked (nI dl) i_isPlanned i_bestDone i_bestCost)), (q 51, .inl (E.2.1 0, 512, .inl a_least)), (q 55, .inl (E.2.1 0, 4, .inl a_sets)), (q 54, .inl (E.2.1 0, 7, .inl a_bestGiven)), (q 53, .inl (E.2.1 0, 7, .inl a_given))]) (va_Qv (fun (u : Int32 × Int32 × (Nat → Int32) × (Nat → Int32) × (Nat → Int32)) => match u with | (bd2, bc2, b_sets, b_bestGiven, b_given) => BG FF CC dl ((hN gp 1 + 1) * 5 ^ (dl - 1)) bd2 bc2 b_bestGiven) (fun (u : Int32 × Int32 × (Nat → Int32) × (Nat → Int32) × (Nat → Int32)) (t : State) => match u with | (bd2, bc2, b_sets, b_bestGiven, b_given) => (∀ k : Nat, k < 4 → inR (b_sets k) 0 127 = true) ∧ (∀ i : Nat, i < 4 → b_sets i = a_sets i) ∧ (∀ k : Nat, k < 1 → b_given k = a_given k) ∧ wB E (va_A [(h0, .inr (12, mG q i_taped i_size i_sort i_what i_at i_end i_worth i_faultKind i_faultPlace i_got i_worked (nI dl) i_isPlanned i_bestDone i_bestCost)), (q 51, .inl (E.2.1 0, 512, .inl a_least)), (q 55, .inl (E.2.1 0, 4, .inl a_sets)), (q 54, .inl (E.2.1 0, 7, .inl a_bestGiven)), (q 53, .inl (E.2.1 0, 7, .inl a_given))] sz) [(h0, .inr (12, mG q i_taped i_size i_sort i_what i_at i_end i_worth i_faultKind i_faultPlace i_got i_worked (nI dl) i_isPlanned bd2 bc2)), (q 51, .inl (E.2.1 0, 512, .inl a_least)), (q 55, .inl (E.2.1 0, 4, .inl b_sets)), (q 54, .inl (E.2.1 0, 7, .inl b_bestGiven)), (q 53, .inl (E.2.1 0, 7, .inl b_given))] t) (va_A [(h0, .inr (12, mG q i_taped i_size i_sort i_what i_at i_end i_worth i_faultKind i_faultPlace i_got i_worked (nI dl) i_isPlanned i_bestDone i_bestCost)), (q 51, .inl (E.2.1 0, 512, .inl a_least)), (q 55, .inl (E.2.1 0, 4, .inl a_sets)), (q 54, .inl (E.2.1 0, 7, .inl a_bestGiven)), (q 53, .inl (E.2.1 0, 7, .inl a_given))] sz)) 0 0 (va_A [(h0, .inr (12, mG q i_taped i_size i_sort i_what i_at i_end i_worth i_faultKind i_faultPlace i_got i_worked (nI dl) i_isPlanned i_bestDone i_bestCost)), (q 51, .inl (E.2.1 0, 512, .inl a_least)), (q 55, .inl (E.2.1 0, 4, .inl a_sets)), (q 54, .inl (E.2.1 0, 7, .inl a_bestGiven)), (q 53, .inl (E.2.1 0, 7, .inl a_given))] sz) := by
  refine Met.ofW (cc := cX12_give) (maxL := 6) (ret := none) (by decide) rfl ?_
  intro p e s m args below meth c s₁ B hml hv
  obtain ⟨rfl, hsz, hP, hkn, hD0, hst⟩ := hv
  have hx := B.exec
  have hb := B.bytes
  have hr := B.returns
  have hts := atoms_spec (ws := wsX12_give) B.pre
  have hown : s.vm.findClass RX12 = some m.cls := findClass_of_methodNamed B.named
  have hlocks := B.notSynchronized
  subst hsz
  have hD := hD0.self (sz := s.heap.size)
  have hK := hkn.1
  have hAO := hkn.2.2.1
  generalize hAe : va_A [(h0, .inr (12, mG q i_taped i_size i_sort i_what i_at i_end i_worth i_faultKind i_faultPlace i_got i_worked (nI dl) i_isPlanned i_bestDone i_bestCost)), (q 51, .inl (E.2.1 0, 512, .inl a_least)), (q 55, .inl (E.2.1 0, 4, .inl a_sets)), (q 54, .inl (E.2.1 0, 7, .inl a_bestGiven)), (q 53, .inl (E.2.1 0, 7, .inl a_given))] s.heap.size = A at hD hst ⊢
  have hA : ∀ q : Nat, s.heap.size ≤ q → A q := fun q h => by rw [← hAe]; exact Or.inr h
  have hS : va_S A s.heap s.heap [] := va_S.rf
  have hP : va_P E.1 vwCl [(h0, .inr (12, mG q i_taped i_size i_sort i_what i_at i_end i_worth i_faultKind i_faultPlace i_got i_worked (nI dl) i_isPlanned i_bestDone i_bestCost)), (q 51, .inl (E.2.1 0, 512, .inl a_least)), (q 55, .inl (E.2.1 0, 4, .inl a_sets)), (q 54, .inl (E.2.1 0, 7, .inl a_bestGiven)), (q 53, .inl (E.2.1 0, 7, .inl a_given))] s.heap := hP
  have hl := lv_entry ([.ref h0, .int 1]) (n := 6) (Nat.le_of_ble_eq_true rfl)
  rw [lg_entry_eq]
  generalize (lg_sl ([.ref h0, .int 1]) ++ List.replicate (6 - (lg_sl ([.ref h0, .int 1])).length) Slot.unset).toArray = ls at hl ⊢
  have hl : lv_has ls 6 [(0, .ref h0), (1, .int 1)] := hl
  have fl130 := hts (.fieldLink RX12 130 "BoatsHomeModel" "least" "[I") (by first | exact List.mem_of_getElem? (i := 2) rfl | decide +kernel)
  have fl136 := hts (.fieldLink RX12 136 "BoatsHomeModel" "given" "[I") (by first | exact List.mem_of_getElem? (i := 7) rfl | decide +kernel)
  have fl139 := hts (.fieldLink RX12 139 "BoatsHomeModel" "bestGiven" "[I") (by first | exact List.mem_of_getElem? (i := 6) rfl | decide +kernel)
  have fl142 := hts (.fieldLink RX12 142 "BoatsHomeModel" "sets" "[I") (by first | exact List.mem_of_getElem? (i := 3) rfl | decide +kernel)
  have fl289 := hts (.fieldLink RX12 289 "BoatsHomeModel" "deliveries" "I") (by first | exact List.mem_of_getElem? (i := 1) rfl | decide +kernel)
  have fl300 := hts (.fieldLink RX12 300 "BoatsHomeModel" "bestDone" "I") (by first | exact List.mem_of_getElem? (i := 4) rfl | decide +kernel)
  have fl303 := hts (.fieldLink RX12 303 "BoatsHomeModel" "bestCost" "I") (by first | exact List.mem_of_getElem? (i := 5) rfl | decide +kernel)
  have inX12 : ∀ w ∈ u_ws RX12 TX12 59, w ∈ wsX12_give := by first | exact fun w h9 => (List.mem_cons_of_mem _ (List.mem_append_right _ h9)) | decide +kernel
  refine lv_iload_n hx hb dX12_give_0 rfl (lv_at hl 1 rfl) ?_
  refine lv_aload_n hx hb dX12_give_1 rfl (lv_at hl 0 rfl) ?_
  refine va_get (D := E.1) (ci := 12) (v := .int (nI dl)) (C := RX12) (T := TX12) (N := 59) hx hb hts inX12 hown hK hP 0 rfl rfl 41 (by decide) fl289 (fun _ h9 => h9) rfl dX12_give_2 ?_
  refine lv_icmp_ne (tgt := 170) hx hb dX12_give_5 (by decide) (fun c_1 => ?_) (fun c_1 => ?_)
  · have hd2 : 1 + 1 ≤ dl := by
      rcases Nat.lt_or_ge 1 dl with q | q
      · exact q
      · exact absurd (by rw [show dl = 1 by omega]; rfl) c_1
    refine lv_iconst (v := 0) hx hb dX12_give_170 (by decide) ?_
    refine lv_istore_n (lv' := [(2, .int 0), (0, .ref h0), (1, .int 1)]) hx hb dX12_give_171 rfl hl (by decide) rfl (fun ls hl => ?_)
    refine lv_iload_n hx hb dX12_give_172 rfl (lv_at hl 0 rfl) ?_
    refine lv_iconst (v := 4) hx hb dX12_give_173 (by decide) ?_
    refine lv_icmp_ge (tgt := 223) hx hb dX12_give_174 (by decide) (fun c9 => absurd c9 (by decide)) (fun _ => ?_)
    refine lv_aload_n hx hb dX12_give_177 rfl (lv_at hl 1 rfl) ?_
    refine va_get (D := E.1) (ci := 12) (v := .ref (q 53)) (C := RX12) (T := TX12) (N := 59) hx hb hts inX12 hown hK hP 0 rfl rfl 53 (by decide) fl136 (fun _ h9 => h9) rfl dX12_give_178 ?_
    refine lv_iload_n hx hb dX12_give_181 rfl (lv_at hl 2 rfl) ?_
    refine lv_iload_n hx hb dX12_give_182 rfl (lv_at hl 0 rfl) ?_
    refine va_iast hx hb hK hP hD hS 4 0 rfl rfl (show vp_in 1 7 from by unfold vp_in; decide) dX12_give_183 (fun H locs hP hD hS => ?_)
    have hP : va_P E.1 vwCl [(h0, .inr (12, mG q i_taped i_size i_sort i_what i_at i_end i_worth i_faultKind i_faultPlace i_got i_worked (nI dl) i_isPlanned i_bestDone i_bestCost)), (q 51, .inl (E.2.1 0, 512, .inl a_least)), (q 55, .inl (E.2.1 0, 4, .inl a_sets)), (q 54, .inl (E.2.1 0, 7, .inl a_bestGiven)), (q 53, .inl (E.2.1 0, 7, .inl (upd a_given (Int32.toNatClampNeg 1) 0)))] H := hP
    have hD : va_D A [(h0, .inr (12, mG q i_taped i_size i_sort i_what i_at i_end i_worth i_faultKind i_faultPlace i_got i_worked (nI dl) i_isPlanned i_bestDone i_bestCost)), (q 51, .inl (E.2.1 0, 512, .inl a_least)), (q 55, .inl (E.2.1 0, 4, .inl a_sets)), (q 54, .inl (E.2.1 0, 7, .inl a_bestGiven)), (q 53, .inl (E.2.1 0, 7, .inl (upd a_given (Int32.toNatClampNeg 1) 0)))] := hD
    obtain ⟨f_2, ef_2⟩ : ∃ g : Nat → Int32, g = upd a_given (Int32.toNatClampNeg 1) 0 := ⟨_, rfl⟩
    rw [← ef_2] at hP hD
    refine lv_aload_n hx hb dX12_give_184 rfl (lv_at hl 1 rfl) ?_
    refine va_get (D := E.1) (ci := 12) (v := .ref (q 55)) (C := RX12) (T := TX12) (N := 59) hx hb hts inX12 hown hK hP 0 rfl rfl 55 (by decide) fl142 (fun _ h9 => h9) rfl dX12_give_185 ?_
    refine lv_iload_n hx hb dX12_give_188 rfl (lv_at hl 0 rfl) ?_
    refine lv_dup2_11 hx hb dX12_give_189 rfl rfl ?_
    refine va_iald hx hb hK hP 2 0 rfl rfl (show vp_in 0 4 from by unfold vp_in; decide) dX12_give_190 ?_
    refine lv_topi (fun x_3 ex_3 => ?_)
    have hv_4 : inR x_3 0 127 = true := by rw [ex_3]; exact hI_sets _ (vin_cl (show vp_in 0 4 from by unfold vp_in; decide))
    obtain ⟨w_5, hw_6, ew_7⟩ := inR_nI (n := 127) (by decide) hv_4
    subst ew_7
    refine lv_iconst (v := 1) hx hb dX12_give_191 (by decide) ?_
    refine lv_iload_n hx hb dX12_give_192 rfl (lv_at hl 2 rfl) ?_
    refine lv_ishl hx hb dX12_give_193 ?_
    refine lv_topi (fun x_8 ex_8 => ?_)
    obtain rfl : x_8 = 2 := ex_8.trans (by decide +kernel)
    refine lv_ior hx hb dX12_give_194 ?_
    refine lv_topi (fun x_9 ex_9 => ?_)
    refine va_iast hx hb hK hP hD hS 2 0 rfl rfl (show vp_in 0 4 from by unfold vp_in; decide) dX12_give_195 (fun H locs hP hD hS => ?_)
    have hP : va_P E.1 vwCl [(h0, .inr (12, mG q i_taped i_size i_sort i_what i_at i_end i_worth i_faultKind i_faultPlace i_got i_worked (nI dl) i_isPlanned i_bestDone i_bestCost)), (q 51, .inl (E.2.1 0, 512, .inl a_least)), (q 55, .inl (E.2.1 0, 4, .inl (upd a_sets (Int32.toNatClampNeg 0) x_9))), (q 54, .inl (E.2.1 0, 7, .inl a_bestGiven)), (q 53, .inl (E.2.1 0, 7, .inl f_2))] H := hP
    have hD : va_D A [(h0, .inr (12, mG q i_taped i_size i_sort i_what i_at i_end i_worth i_faultKind i_faultPlace i_got i_worked (nI dl) i_isPlanned i_bestDone i_bestCost)), (q 51, .inl (E.2.1 0, 512, .inl a_least)), (q 55, .inl (E.2.1 0, 4, .inl (upd a_sets (Int32.toNatClampNeg 0) x_9))), (q 54, .inl (E.2.1 0, 7, .inl a_bestGiven)), (q 53, .inl (E.2.1 0, 7, .inl f_2))] := hD
    obtain ⟨f_10, ef_10⟩ : ∃ g : Nat → Int32, g = upd a_sets (Int32.toNatClampNeg 0) x_9 := ⟨_, rfl⟩
    rw [← ef_10] at hP hD
    have hI_11 : ∀ k : Nat, k < 4 → inR (f_10 k) 0 127 = true := by rw [ef_10]; exact all_upd (P := fun z => inR z 0 127 = true) hI_sets (by rw [ex_9]; exact or_lt7 _ (by omega) 1 (by decide))
    refine lv_aload_n hx hb dX12_give_196 rfl (lv_at hl 1 rfl) ?_
    refine lv_iload_n hx hb dX12_give_197 rfl (lv_at hl 2 rfl) ?_
    refine lv_iconst (v := 1) hx hb dX12_give_198 (by decide) ?_
    refine lv_iadd hx hb dX12_give_199 ?_
    refine lv_topi (fun x_12 ex_12 => ?_)
    obtain rfl : x_12 = 2 := ex_12.trans (by decide +kernel)
    have hp0 : ∀ i : Nat, i < 4 → f_10 i = put a_sets 0 1 i := put_of (prev := a_sets) (x := x_9) (y := nI w_5) (z := 2) (fun i hi => rfl) (by decide) (ef_10.trans (by rw [show Int32.toNatClampNeg 0 = 0 from by decide])) ex_9 (ex_3.trans (by rw [show Int32.toNatClampNeg 0 = 0 from by decide])) (by decide)
    have hv0 : ∀ k : Nat, k < 1 + 1 → f_2 k = gI (pg gp 1 0 k) := gv_put (cur := a_given) (fun k hk => rfl) hGv (ef_2.trans (by rw [show Int32.toNatClampNeg 1 = 1 from by decide])) (by decide)
    have hPc := hP.sub (ws' := [(h0, .inr (12, mG q i_taped i_size i_sort i_what i_at i_end i_worth i_faultKind i_faultPlace i_got i_worked (nI dl) i_isPlanned i_bestDone i_bestCost)), (q 51, .inl (E.2.1 0, 512, .inl a_least)), (q 55, .inl (E.2.1 0, 4, .inl f_10)), (q 54, .inl (E.2.1 0, 7, .inl a_bestGiven)), (q 53, .inl (E.2.1 0, 7, .inl f_2))]) [0, 1, 2, 3, 4] rfl
    have hDc := hD.sub (ws' := [(h0, .inr (12, mG q i_taped i_size i_sort i_what i_at i_end i_worth i_faultKind i_faultPlace i_got i_worked (nI dl) i_isPlanned i_bestDone i_bestCost)), (q 51, .inl (E.2.1 0, 512, .inl a_least)), (q 55, .inl (E.2.1 0, 4, .inl f_10)), (q 54, .inl (E.2.1 0, 7, .inl a_bestGiven)), (q 53, .inl (E.2.1 0, 7, .inl f_2))]) [0, 1, 2, 3, 4] (by decide) rfl
    have hFc := va_free (wc := [(h0, .inr (12, mG q i_taped i_size i_sort i_what i_at i_end i_worth i_faultKind i_faultPlace i_got i_worked (nI dl) i_isPlanned i_bestDone i_bestCost)), (q 51, .inl (E.2.1 0, 512, .inl a_least)), (q 55, .inl (E.2.1 0, 4, .inl f_10)), (q 54, .inl (E.2.1 0, 7, .inl a_bestGiven)), (q 53, .inl (E.2.1 0, 7, .inl f_2))]) hD hS hA [0, 1, 2, 3, 4] rfl
    refine va_callv (va_runV (As := [.int 2]) (rest := []) ⟨hx, hb, hml, hown, hts⟩ (c_X12_give2 l E h0 q i_taped i_size i_sort i_what i_at i_end i_worth i_faultKind i_faultPlace i_got i_worked i_isPlanned i_bestDone i_bestCost dl FF CC (pg gp 1 0) a_least f_10 a_bestGiven f_2 H.size hdl hd2 (pg_le hp (by decide)) (st_put hSt hp0) hv0 (BG_M (M_0 hd2) hBG) hKm hCb hI_11) (cwV 1 hts gX12_give_X12_give rfl rfl rfl hdV_X12_give ⟨Nat.le_of_ble_eq_true rfl, Nat.le_of_ble_eq_true rfl⟩) ⟨pcW_blind, va_recv hK hPc (ci := 12) (q0 := 0) rfl rfl, (pcW_pre hPc hkn hDc hst hS hFc)⟩ rfl rfl hl.1 rfl (lv_room (Nat.le_of_ble_eq_true rfl)) dX12_give_200 ⟨Nat.le_of_ble_eq_true rfl, Nat.le_of_ble_eq_true rfl⟩) hS (fun q _ h => hFc q h) hFc (fun u t H1 locs ht hvm hw_14 hB hz1 hk1 hS => ?_)
    obtain ⟨u_15, u_16, u_17, u_18, u_19⟩ := u
    obtain ⟨hf_20, hf_21, hf_22, hP1, hD1⟩ := hB
    rw [ht] at hP1
    try dsimp only at hw_14
    obtain ⟨hP, hD⟩ := va_join (wr := []) (w1 := [(h0, .inr (12, mG q i_taped i_size i_sort i_what i_at i_end i_worth i_faultKind i_faultPlace i_got i_worked (nI dl) i_isPlanned u_15 u_16)), (q 51, .inl (E.2.1 0, 512, .inl a_least)), (q 55, .inl (E.2.1 0, 4, .inl u_17)), (q 54, .inl (E.2.1 0, 7, .inl u_18)), (q 53, .inl (E.2.1 0, 7, .inl u_19))]) hP hD [0, 1, 2, 3, 4] [] rfl rfl (by decide) (by decide) hk1 hFc hP1 hD1
    generalize H1 = H at hP hS ⊢
    have hP : va_P E.1 vwCl [(h0, .inr (12, mG q i_taped i_size i_sort i_what i_at i_end i_worth i_faultKind i_faultPlace i_got i_worked (nI dl) i_isPlanned u_15 u_16)), (q 51, .inl (E.2.1 0, 512, .inl a_least)), (q 55, .inl (E.2.1 0, 4, .inl u_17)), (q 54, .inl (E.2.1 0, 7, .inl u_18)), (q 53, .inl (E.2.1 0, 7, .inl u_19))] H := hP
    have hD : va_D A [(h0, .inr (12, mG q i_taped i_size i_sort i_what i_at i_end i_worth i_faultKind i_faultPlace i_got i_worked (nI dl) i_isPlanned u_15 u_16)), (q 51, .inl (E.2.1 0, 512, .inl a_least)), (q 55, .inl (E.2.1 0, 4, .inl u_17)), (q 54, .inl (E.2.1 0, 7, .inl u_18)), (q 53, .inl (E.2.1 0, 7, .inl u_19))] := hD
    refine lv_aload_n hx hb dX12_give_203 rfl (lv_at hl 1 rfl) ?_
    refine va_get (D := E.1) (ci := 12) (v := .ref (q 55)) (C := RX12) (T := TX12) (N := 59) hx hb hts inX12 hown hK hP 0 rfl rfl 55 (by decide) fl142 (fun _ h9 => h9) rfl dX12_give_204 ?_
    refine lv_iload_n hx hb dX12_give_207 rfl (lv_at hl 0 rfl) ?_
    refine lv_dup2_11 hx hb dX12_give_208 rfl rfl ?_
    refine va_iald hx hb hK hP 2 0 rfl rfl (show vp_in 0 4 from by unfold vp_in; decide) dX12_give_209 ?_
    refine lv_topi (fun x_23 ex_23 => ?_)
    have hv_24 : inR x_23 0 127 = true := by rw [ex_23]; exact hf_20 _ (vin_cl (show vp_in 0 4 from by unfold vp_in; decide))
    obtain ⟨w_25, hw_26, ew_27⟩ := inR_nI (n := 127) (by decide) hv_24
    subst ew_27
    refine lv_iconst (v := 1) hx hb dX12_give_210 (by decide) ?_
    refine lv_iload_n hx hb dX12_give_211 rfl (lv_at hl 2 rfl) ?_
    refine lv_ishl hx hb dX12_give_212 ?_
    refine lv_topi (fun x_28 ex_28 => ?_)
    obtain rfl : x_28 = 2 := ex_28.trans (by decide +kernel)
    refine lv_iconst (v := (-1)) hx hb dX12_give_213 (by decide) ?_
    refine lv_ixor hx hb dX12_give_214 ?_
    refine lv_topi (fun x_29 ex_29 => ?_)
    obtain rfl : x_29 = (-3) := ex_29.trans (by decide +kernel)
    refine lv_iand hx hb dX12_give_215 ?_
    refine lv_topi (fun x_30 ex_30 => ?_)
    refine va_iast hx hb hK hP hD hS 2 0 rfl rfl (show vp_in 0 4 from by unfold vp_in; decide) dX12_give_216 (fun H locs hP hD hS => ?_)
    have hP : va_P E.1 vwCl [(h0, .inr (12, mG q i_taped i_size i_sort i_what i_at i_end i_worth i_faultKind i_faultPlace i_got i_worked (nI dl) i_isPlanned u_15 u_16)), (q 51, .inl (E.2.1 0, 512, .inl a_least)), (q 55, .inl (E.2.1 0, 4, .inl (upd u_17 (Int32.toNatClampNeg 0) x_30))), (q 54, .inl (E.2.1 0, 7, .inl u_18)), (q 53, .inl (E.2.1 0, 7, .inl u_19))] H := hP
    have hD : va_D A [(h0, .inr (12, mG q i_taped i_size i_sort i_what i_at i_end i_worth i_faultKind i_faultPlace i_got i_worked (nI dl) i_isPlanned u_15 u_16)), (q 51, .inl (E.2.1 0, 512, .inl a_least)), (q 55, .inl (E.2.1 0, 4, .inl (upd u_17 (Int32.toNatClampNeg 0) x_30))), (q 54, .inl (E.2.1 0, 7, .inl u_18)), (q 53, .inl (E.2.1 0, 7, .inl u_19))] := hD
    obtain ⟨f_31, ef_31⟩ : ∃ g : Nat → Int32, g = upd u_17 (Int32.toNatClampNeg 0) x_30 := ⟨_, rfl⟩
    rw [← ef_31] at hP hD
    have hI_32 : ∀ k : Nat, k < 4 → inR (f_31 k) 0 127 = true := by rw [ef_31]; exact all_upd (P := fun z => inR z 0 127 = true) hf_20 (by rw [ex_30]; exact and_lt7 _ (by omega) 1 (by decide))
    have hb0 : ∀ i : Nat, i < 4 → f_31 i = a_sets i := gback_of (u := u_17) (x := x_30) (y := nI w_25) (z := (-3)) (by decide) (by decide) ⟨gp, hSt⟩ hp0 hf_21 (ef_31.trans (by rw [show Int32.toNatClampNeg 0 = 0 from by decide])) ex_30 (ex_23.trans (by rw [show Int32.toNatClampNeg 0 = 0 from by decide])) (by decide)
    refine lv_iinc (v := 1) (lv' := [(2, .int 1), (0, .ref h0), (1, .int 1)]) hx hb dX12_give_217 hl (k := 0) rfl (by decide) (by decide) rfl (fun ls hl => ?_)
    refine lv_goto (tgt := 172) hx hb dX12_give_220 (by decide) ?_
    refine lv_iload_n hx hb dX12_give_172 rfl (lv_at hl 0 rfl) ?_
    refine lv_iconst (v := 4) hx hb dX12_give_173 (by decide) ?_
    refine lv_icmp_ge (tgt := 223) hx hb dX12_give_174 (by decide) (fun c9 => absurd c9 (by decide)) (fun _ => ?_)
    refine lv_aload_n hx hb dX12_give_177 rfl (lv_at hl 1 rfl) ?_
    refine va_get (D := E.1) (ci := 12) (v := .ref (q 53)) (C := RX12) (T := TX12) (N := 59) hx hb hts inX12 hown hK hP 0 rfl rfl 53 (by decide) fl136 (fun _ h9 => h9) rfl dX12_give_178 ?_
    refine lv_iload_n hx hb dX12_give_181 rfl (lv_at hl 2 rfl) ?_
    refine lv_iload_n hx hb dX12_give_182 rfl (lv_at hl 0 rfl) ?_
    refine va_iast hx hb hK hP hD hS 4 0 rfl rfl (show vp_in 1 7 from by unfold vp_in; decide) dX12_give_183 (fun H locs hP hD hS => ?_)
    have hP : va_P E.1 vwCl [(h0, .inr (12, mG q i_taped i_size i_sort i_what i_at i_end i_worth i_faultKind i_faultPlace i_got i_worked (nI dl) i_isPlanned u_15 u_16)), (q 51, .inl (E.2.1 0, 512, .inl a_least)), (q 55, .inl (E.2.1 0, 4, .inl f_31)), (q 54, .inl (E.2.1 0, 7, .inl u_18)), (q 53, .inl (E.2.1 0, 7, .inl (upd u_19 (Int32.toNatClampNeg 1) 1)))] H := hP
    have hD : va_D A [(h0, .inr (12, mG q i_taped i_size i_sort i_what i_at i_end i_worth i_faultKind i_faultPlace i_got i_worked (nI dl) i_isPlanned u_15 u_16)), (q 51, .inl (E.2.1 0, 512, .inl a_least)), (q 55, .inl (E.2.1 0, 4, .inl f_31)), (q 54, .inl (E.2.1 0, 7, .inl u_18)), (q 53, .inl (E.2.1 0, 7, .inl (upd u_19 (Int32.toNatClampNeg 1) 1)))] := hD
    obtain ⟨f_33, ef_33⟩ : ∃ g : Nat → Int32, g = upd u_19 (Int32.toNatClampNeg 1) 1 := ⟨_, rfl⟩
    rw [← ef_33] at hP hD
    refine lv_aload_n hx hb dX12_give_184 rfl (lv_at hl 1 rfl) ?_
    refine va_get (D := E.1) (ci := 12) (v := .ref (q 55)) (C := RX12) (T := TX12) (N := 59) hx hb hts inX12 hown hK hP 0 rfl rfl 55 (by decide) fl142 (fun _ h9 => h9) rfl dX12_give_185 ?_
    refine lv_iload_n hx hb dX12_give_188 rfl (lv_at hl 0 rfl) ?_
    refine lv_dup2_11 hx hb dX12_give_189 rfl rfl ?_
    refine va_iald hx hb hK hP 2 0 rfl rfl (show vp_in 1 4 from by unfold vp_in; decide) dX12_give_190 ?_
    refine lv_topi (fun x_34 ex_34 => ?_)
    have hv_35 : inR x_34 0 127 = true := by rw [ex_34]; exact hI_32 _ (vin_cl (show vp_in 1 4 from by unfold vp_in; decide))
    obtain ⟨w_36, hw_37, ew_38⟩ := inR_nI (n := 127) (by decide) hv_35
    subst ew_38
    refine lv_iconst (v := 1) hx hb dX12_give_191 (by decide) ?_
    refine lv_iload_n hx hb dX12_give_192 rfl (lv_at hl 2 rfl) ?_
    refine lv_ishl hx hb dX12_give_193 ?_
    refine lv_topi (fun x_39 ex_39 => ?_)
    obtain rfl : x_39 = 2 := ex_39.trans (by decide +kernel)
    refine lv_ior hx hb dX12_give_194 ?_
    refine lv_topi (fun x_40 ex_40 => ?_)
    refine va_iast hx hb hK hP hD hS 2 0 rfl rfl (show vp_in 1 4 from by unfold vp_in; decide) dX12_give_195 (fun H locs hP hD hS => ?_)
    have hP : va_P E.1 vwCl [(h0, .inr (12, mG q i_taped i_size i_sort i_what i_at i_end i_worth i_faultKind i_faultPlace i_got i_worked (nI dl) i_isPlanned u_15 u_16)), (q 51, .inl (E.2.1 0, 512, .inl a_least)), (q 55, .inl (E.2.1 0, 4, .inl (upd f_31 (Int32.toNatClampNeg 1) x_40))), (q 54, .inl (E.2.1 0, 7, .inl u_18)), (q 53, .inl (E.2.1 0, 7, .inl f_33))] H := hP
    have hD : va_D A [(h0, .inr (12, mG q i_taped i_size i_sort i_what i_at i_end i_worth i_faultKind i_faultPlace i_got i_worked (nI dl) i_isPlanned u_15 u_16)), (q 51, .inl (E.2.1 0, 512, .inl a_least)), (q 55, .inl (E.2.1 0, 4, .inl (upd f_31 (Int32.toNatClampNeg 1) x_40))), (q 54, .inl (E.2.1 0, 7, .inl u_18)), (q 53, .inl (E.2.1 0, 7, .inl f_33))] := hD
    obtain ⟨f_41, ef_41⟩ : ∃ g : Nat → Int32, g = upd f_31 (Int32.toNatClampNeg 1) x_40 := ⟨_, rfl⟩
    rw [← ef_41] at hP hD
    have hI_42 : ∀ k : Nat, k < 4 → inR (f_41 k) 0 127 = true := by rw [ef_41]; exact all_upd (P := fun z => inR z 0 127 = true) hI_32 (by rw [ex_40]; exact or_lt7 _ (by omega) 1 (by decide))
    refine lv_aload_n hx hb dX12_give_196 rfl (lv_at hl 1 rfl) ?_
    refine lv_iload_n hx hb dX12_give_197 rfl (lv_at hl 2 rfl) ?_
    refine lv_iconst (v := 1) hx hb dX12_give_198 (by decide) ?_
    refine lv_iadd hx hb dX12_give_199 ?_
    refine lv_topi (fun x_43 ex_43 => ?_)
    obtain rfl : x_43 = 2 := ex_43.trans (by decide +kernel)
    have hp1 : ∀ i : Nat, i < 4 → f_41 i = put a_sets 1 1 i := put_of (prev := f_31) (x := x_40) (y := nI w_36) (z := 2) hb0 (by decide) (ef_41.trans (by rw [show Int32.toNatClampNeg 1 = 1 from by decide])) ex_40 (ex_34.trans (by rw [show Int32.toNatClampNeg 1 = 1 from by decide])) (by decide)
    have hv1 : ∀ k : Nat, k < 1 + 1 → f_33 k = gI (pg gp 1 1 k) := gv_put (cur := u_19) (gv_cur (fun k hk => rfl) (ef_2.trans (by rw [show Int32.toNatClampNeg 1 = 1 from by decide])) hf_22) hGv (ef_33.trans (by rw [show Int32.toNatClampNeg 1 = 1 from by decide])) (by decide)
    have hPc := hP.sub (ws' := [(h0, .inr (12, mG q i_taped i_size i_sort i_what i_at i_end i_worth i_faultKind i_faultPlace i_got i_worked (nI dl) i_isPlanned u_15 u_16)), (q 51, .inl (E.2.1 0, 512, .inl a_least)), (q 55, .inl (E.2.1 0, 4, .inl f_41)), (q 54, .inl (E.2.1 0, 7, .inl u_18)), (q 53, .inl (E.2.1 0, 7, .inl f_33))]) [0, 1, 2, 3, 4] rfl
    have hDc := hD.sub (ws' := [(h0, .inr (12, mG q i_taped i_size i_sort i_what i_at i_end i_worth i_faultKind i_faultPlace i_got i_worked (nI dl) i_isPlanned u_15 u_16)), (q 51, .inl (E.2.1 0, 512, .inl a_least)), (q 55, .inl (E.2.1 0, 4, .inl f_41)), (q 54, .inl (E.2.1 0, 7, .inl u_18)), (q 53, .inl (E.2.1 0, 7, .inl f_33))]) [0, 1, 2, 3, 4] (by decide) rfl
    have hFc := va_free (wc := [(h0, .inr (12, mG q i_taped i_size i_sort i_what i_at i_end i_worth i_faultKind i_faultPlace i_got i_worked (nI dl) i_isPlanned u_15 u_16)), (q 51, .inl (E.2.1 0, 512, .inl a_least)), (q 55, .inl (E.2.1 0, 4, .inl f_41)), (q 54, .inl (E.2.1 0, 7, .inl u_18)), (q 53, .inl (E.2.1 0, 7, .inl f_33))]) hD hS hA [0, 1, 2, 3, 4] rfl
    refine va_callv (va_runV (As := [.int 2]) (rest := []) ⟨hx, hb, hml, hown, hts⟩ (c_X12_give2 l E h0 q i_taped i_size i_sort i_what i_at i_end i_worth i_faultKind i_faultPlace i_got i_worked i_isPlanned u_15 u_16 dl FF CC (pg gp 1 1) a_least f_41 u_18 f_33 H.size hdl hd2 (pg_le hp (by decide)) (st_put hSt hp1) hv1 (BG_M M_s hw_14) hKm hCb hI_42) (cwV 1 hts gX12_give_X12_give rfl rfl rfl hdV_X12_give ⟨Nat.le_of_ble_eq_true rfl, Nat.le_of_ble_eq_true rfl⟩) ⟨pcW_blind, va_recv hK hPc (ci := 12) (q0 := 0) rfl rfl, (pcW_pre hPc hkn hDc hst hS hFc)⟩ rfl rfl hl.1 rfl (lv_room (Nat.le_of_ble_eq_true rfl)) dX12_give_200 ⟨Nat.le_of_ble_eq_true rfl, Nat.le_of_ble_eq_true rfl⟩) hS (fun q _ h => hFc q h) hFc (fun u t H1 locs ht hvm hw_45 hB hz1 hk1 hS => ?_)
    obtain ⟨u_46, u_47, u_48, u_49, u_50⟩ := u
    obtain ⟨hf_51, hf_52, hf_53, hP1, hD1⟩ := hB
    rw [ht] at hP1
    try dsimp only at hw_45
    obtain ⟨hP, hD⟩ := va_join (wr := []) (w1 := [(h0, .inr (12, mG q i_taped i_size i_sort i_what i_at i_end i_worth i_faultKind i_faultPlace i_got i_worked (nI dl) i_isPlanned u_46 u_47)), (q 51, .inl (E.2.1 0, 512, .inl a_least)), (q 55, .inl (E.2.1 0, 4, .inl u_48)), (q 54, .inl (E.2.1 0, 7, .inl u_49)), (q 53, .inl (E.2.1 0, 7, .inl u_50))]) hP hD [0, 1, 2, 3, 4] [] rfl rfl (by decide) (by decide) hk1 hFc hP1 hD1
    generalize H1 = H at hP hS ⊢
    have hP : va_P E.1 vwCl [(h0, .inr (12, mG q i_taped i_size i_sort i_what i_at i_end i_worth i_faultKind i_faultPlace i_got i_worked (nI dl) i_isPlanned u_46 u_47)), (q 51, .inl (E.2.1 0, 512, .inl a_least)), (q 55, .inl (E.2.1 0, 4, .inl u_48)), (q 54, .inl (E.2.1 0, 7, .inl u_49)), (q 53, .inl (E.2.1 0, 7, .inl u_50))] H := hP
    have hD : va_D A [(h0, .inr (12, mG q i_taped i_size i_sort i_what i_at i_end i_worth i_faultKind i_faultPlace i_got i_worked (nI dl) i_isPlanned u_46 u_47)), (q 51, .inl (E.2.1 0, 512, .inl a_least)), (q 55, .inl (E.2.1 0, 4, .inl u_48)), (q 54, .inl (E.2.1 0, 7, .inl u_49)), (q 53, .inl (E.2.1 0, 7, .inl u_50))] := hD
    refine lv_aload_n hx hb dX12_give_203 rfl (lv_at hl 1 rfl) ?_
    refine va_get (D := E.1) (ci := 12) (v := .ref (q 55)) (C := RX12) (T := TX12) (N := 59) hx hb hts inX12 hown hK hP 0 rfl rfl 55 (by decide) fl142 (fun _ h9 => h9) rfl dX12_give_204 ?_
    refine lv_iload_n hx hb dX12_give_207 rfl (lv_at hl 0 rfl) ?_
    refine lv_dup2_11 hx hb dX12_give_208 rfl rfl ?_
    refine va_iald hx hb hK hP 2 0 rfl rfl (show vp_in 1 4 from by unfold vp_in; decide) dX12_give_209 ?_
    refine lv_topi (fun x_54 ex_54 => ?_)
    have hv_55 : inR x_54 0 127 = true := by rw [ex_54]; exact hf_51 _ (vin_cl (show vp_in 1 4 from by unfold vp_in; decide))
    obtain ⟨w_56, hw_57, ew_58⟩ := inR_nI (n := 127) (by decide) hv_55
    subst ew_58
    refine lv_iconst (v := 1) hx hb dX12_give_210 (by decide) ?_
    refine lv_iload_n hx hb dX12_give_211 rfl (lv_at hl 2 rfl) ?_
    refine lv_ishl hx hb dX12_give_212 ?_
    refine lv_topi (fun x_59 ex_59 => ?_)
    obtain rfl : x_59 = 2 := ex_59.trans (by decide +kernel)
    refine lv_iconst (v := (-1)) hx hb dX12_give_213 (by decide) ?_
    refine lv_ixor hx hb dX12_give_214 ?_
    refine lv_topi (fun x_60 ex_60 => ?_)
    obtain rfl : x_60 = (-3) := ex_60.trans (by decide +kernel)
    refine lv_iand hx hb dX12_give_215 ?_
    refine lv_topi (fun x_61 ex_61 => ?_)
    refine va_iast hx hb hK hP hD hS 2 0 rfl rfl (show vp_in 1 4 from by unfold vp_in; decide) dX12_give_216 (fun H locs hP hD hS => ?_)
    have hP : va_P E.1 vwCl [(h0, .inr (12, mG q i_taped i_size i_sort i_what i_at i_end i_worth i_faultKind i_faultPlace i_got i_worked (nI dl) i_isPlanned u_46 u_47)), (q 51, .inl (E.2.1 0, 512, .inl a_least)), (q 55, .inl (E.2.1 0, 4, .inl (upd u_48 (Int32.toNatClampNeg 1) x_61))), (q 54, .inl (E.2.1 0, 7, .inl u_49)), (q 53, .inl (E.2.1 0, 7, .inl u_50))] H := hP
    have hD : va_D A [(h0, .inr (12, mG q i_taped i_size i_sort i_what i_at i_end i_worth i_faultKind i_faultPlace i_got i_worked (nI dl) i_isPlanned u_46 u_47)), (q 51, .inl (E.2.1 0, 512, .inl a_least)), (q 55, .inl (E.2.1 0, 4, .inl (upd u_48 (Int32.toNatClampNeg 1) x_61))), (q 54, .inl (E.2.1 0, 7, .inl u_49)), (q 53, .inl (E.2.1 0, 7, .inl u_50))] := hD
    obtain ⟨f_62, ef_62⟩ : ∃ g : Nat → Int32, g = upd u_48 (Int32.toNatClampNeg 1) x_61 := ⟨_, rfl⟩
    rw [← ef_62] at hP hD
    have hI_63 : ∀ k : Nat, k < 4 → inR (f_62 k) 0 127 = true := by rw [ef_62]; exact all_upd (P := fun z => inR z 0 127 = true) hf_51 (by rw [ex_61]; exact and_lt7 _ (by omega) 1 (by decide))
    have hb1 : ∀ i : Nat, i < 4 → f_62 i = a_sets i := gback_of (u := u_48) (x := x_61) (y := nI w_56) (z := (-3)) (by decide) (by decide) ⟨gp, hSt⟩ hp1 hf_52 (ef_62.trans (by rw [show Int32.toNatClampNeg 1 = 1 from by decide])) ex_61 (ex_54.trans (by rw [show Int32.toNatClampNeg 1 = 1 from by decide])) (by decide)
    refine lv_iinc (v := 2) (lv' := [(2, .int 2), (0, .ref h0), (1, .int 1)]) hx hb dX12_give_217 hl (k := 0) rfl (by decide) (by decide) rfl (fun ls hl => ?_)
    refine lv_goto (tgt := 172) hx hb dX12_give_220 (by decide) ?_
    refine lv_iload_n hx hb dX12_give_172 rfl (lv_at hl 0 rfl) ?_
    refine lv_iconst (v := 4) hx hb dX12_give_173 (by decide) ?_
    refine lv_icmp_ge (tgt := 223) hx hb dX12_give_174 (by decide) (fun c9 => absurd c9 (by decide)) (fun _ => ?_)
    refine lv_aload_n hx hb dX12_give_177 rfl (lv_at hl 1 rfl) ?_
    refine va_get (D := E.1) (ci := 12) (v := .ref (q 53)) (C := RX12) (T := TX12) (N := 59) hx hb hts inX12 hown hK hP 0 rfl rfl 53 (by decide) fl136 (fun _ h9 => h9) rfl dX12_give_178 ?_
    refine lv_iload_n hx hb dX12_give_181 rfl (lv_at hl 2 rfl) ?_
    refine lv_iload_n hx hb dX12_give_182 rfl (lv_at hl 0 rfl) ?_
    refine va_iast hx hb hK hP hD hS 4 0 rfl rfl (show vp_in 1 7 from by unfold vp_in; decide) dX12_give_183 (fun H locs hP hD hS => ?_)
    have hP : va_P E.1 vwCl [(h0, .inr (12, mG q i_taped i_size i_sort i_what i_at i_end i_worth i_faultKind i_faultPlace i_got i_worked (nI dl) i_isPlanned u_46 u_47)), (q 51, .inl (E.2.1 0, 512, .inl a_least)), (q 55, .inl (E.2.1 0, 4, .inl f_62)), (q 54, .inl (E.2.1 0, 7, .inl u_49)), (q 53, .inl (E.2.1 0, 7, .inl (upd u_50 (Int32.toNatClampNeg 1) 2)))] H := hP
    have hD : va_D A [(h0, .inr (12, mG q i_taped i_size i_sort i_what i_at i_end i_worth i_faultKind i_faultPlace i_got i_worked (nI dl) i_isPlanned u_46 u_47)), (q 51, .inl (E.2.1 0, 512, .inl a_least)), (q 55, .inl (E.2.1 0, 4, .inl f_62)), (q 54, .inl (E.2.1 0, 7, .inl u_49)), (q 53, .inl (E.2.1 0, 7, .inl (upd u_50 (Int32.toNatClampNeg 1) 2)))] := hD
    obtain ⟨f_64, ef_64⟩ : ∃ g : Nat → Int32, g = upd u_50 (Int32.toNatClampNeg 1) 2 := ⟨_, rfl⟩
    rw [← ef_64] at hP hD
    refine lv_aload_n hx hb dX12_give_184 rfl (lv_at hl 1 rfl) ?_
    refine va_get (D := E.1) (ci := 12) (v := .ref (q 55)) (C := RX12) (T := TX12) (N := 59) hx hb hts inX12 hown hK hP 0 rfl rfl 55 (by decide) fl142 (fun _ h9 => h9) rfl dX12_give_185 ?_
    refine lv_iload_n hx hb dX12_give_188 rfl (lv_at hl 0 rfl) ?_
    refine lv_dup2_11 hx hb dX12_give_189 rfl rfl ?_
    refine va_iald hx hb hK hP 2 0 rfl rfl (show vp_in 2 4 from by unfold vp_in; decide) dX12_give_190 ?_
    refine lv_topi (fun x_65 ex_65 => ?_)
    have hv_66 : inR x_65 0 127 = true := by rw [ex_65]; exact hI_63 _ (vin_cl (show vp_in 2 4 from by unfold vp_in; decide))
    obtain ⟨w_67, hw_68, ew_69⟩ := inR_nI (n := 127) (by decide) hv_66
    subst ew_69
    refine lv_iconst (v := 1) hx hb dX12_give_191 (by decide) ?_
    refine lv_iload_n hx hb dX12_give_192 rfl (lv_at hl 2 rfl) ?_
    refine lv_ishl hx hb dX12_give_193 ?_
    refine lv_topi (fun x_70 ex_70 => ?_)
    obtain rfl : x_70 = 2 := ex_70.trans (by decide +kernel)
    refine lv_ior hx hb dX12_give_194 ?_
    refine lv_topi (fun x_71 ex_71 => ?_)
    refine va_iast hx hb hK hP hD hS 2 0 rfl rfl (show vp_in 2 4 from by unfold vp_in; decide) dX12_give_195 (fun H locs hP hD hS => ?_)
    have hP : va_P E.1 vwCl [(h0, .inr (12, mG q i_taped i_size i_sort i_what i_at i_end i_worth i_faultKind i_faultPlace i_got i_worked (nI dl) i_isPlanned u_46 u_47)), (q 51, .inl (E.2.1 0, 512, .inl a_least)), (q 55, .inl (E.2.1 0, 4, .inl (upd f_62 (Int32.toNatClampNeg 2) x_71))), (q 54, .inl (E.2.1 0, 7, .inl u_49)), (q 53, .inl (E.2.1 0, 7, .inl f_64))] H := hP
    have hD : va_D A [(h0, .inr (12, mG q i_taped i_size i_sort i_what i_at i_end i_worth i_faultKind i_faultPlace i_got i_worked (nI dl) i_isPlanned u_46 u_47)), (q 51, .inl (E.2.1 0, 512, .inl a_least)), (q 55, .inl (E.2.1 0, 4, .inl (upd f_62 (Int32.toNatClampNeg 2) x_71))), (q 54, .inl (E.2.1 0, 7, .inl u_49)), (q 53, .inl (E.2.1 0, 7, .inl f_64))] := hD
    obtain ⟨f_72, ef_72⟩ : ∃ g : Nat → Int32, g = upd f_62 (Int32.toNatClampNeg 2) x_71 := ⟨_, rfl⟩
    rw [← ef_72] at hP hD
    have hI_73 : ∀ k : Nat, k < 4 → inR (f_72 k) 0 127 = true := by rw [ef_72]; exact all_upd (P := fun z => inR z 0 127 = true) hI_63 (by rw [ex_71]; exact or_lt7 _ (by omega) 1 (by decide))
    refine lv_aload_n hx hb dX12_give_196 rfl (lv_at hl 1 rfl) ?_
    refine lv_iload_n hx hb dX12_give_197 rfl (lv_at hl 2 rfl) ?_
    refine lv_iconst (v := 1) hx hb dX12_give_198 (by decide) ?_
    refine lv_iadd hx hb dX12_give_199 ?_
    refine lv_topi (fun x_74 ex_74 => ?_)
    obtain rfl : x_74 = 2 := ex_74.trans (by decide +kernel)
    have hp2 : ∀ i : Nat, i < 4 → f_72 i = put a_sets 2 1 i := put_of (prev := f_62) (x := x_71) (y := nI w_67) (z := 2) hb1 (by decide) (ef_72.trans (by rw [show Int32.toNatClampNeg 2 = 2 from by decide])) ex_71 (ex_65.trans (by rw [show Int32.toNatClampNeg 2 = 2 from by decide])) (by decide)
    have hv2 : ∀ k : Nat, k < 1 + 1 → f_64 k = gI (pg gp 1 2 k) := gv_put (cur := u_50) (gv_cur (gv_cur (fun k hk => rfl) (ef_2.trans (by rw [show Int32.toNatClampNeg 1 = 1 from by decide])) hf_22) (ef_33.trans (by rw [show Int32.toNatClampNeg 1 = 1 from by decide])) hf_53) hGv (ef_64.trans (by rw [show Int32.toNatClampNeg 1 = 1 from by decide])) (by decide)
    have hPc := hP.sub (ws' := [(h0, .inr (12, mG q i_taped i_size i_sort i_what i_at i_end i_worth i_faultKind i_faultPlace i_got i_worked (nI dl) i_isPlanned u_46 u_47)), (q 51, .inl (E.2.1 0, 512, .inl a_least)), (q 55, .inl (E.2.1 0, 4, .inl f_72)), (q 54, .inl (E.2.1 0, 7, .inl u_49)), (q 53, .inl (E.2.1 0, 7, .inl f_64))]) [0, 1, 2, 3, 4] rfl
    have hDc := hD.sub (ws' := [(h0, .inr (12, mG q i_taped i_size i_sort i_what i_at i_end i_worth i_faultKind i_faultPlace i_got i_worked (nI dl) i_isPlanned u_46 u_47)), (q 51, .inl (E.2.1 0, 512, .inl a_least)), (q 55, .inl (E.2.1 0, 4, .inl f_72)), (q 54, .inl (E.2.1 0, 7, .inl u_49)), (q 53, .inl (E.2.1 0, 7, .inl f_64))]) [0, 1, 2, 3, 4] (by decide) rfl
    have hFc := va_free (wc := [(h0, .inr (12, mG q i_taped i_size i_sort i_what i_at i_end i_worth i_faultKind i_faultPlace i_got i_worked (nI dl) i_isPlanned u_46 u_47)), (q 51, .inl (E.2.1 0, 512, .inl a_least)), (q 55, .inl (E.2.1 0, 4, .inl f_72)), (q 54, .inl (E.2.1 0, 7, .inl u_49)), (q 53, .inl (E.2.1 0, 7, .inl f_64))]) hD hS hA [0, 1, 2, 3, 4] rfl
    refine va_callv (va_runV (As := [.int 2]) (rest := []) ⟨hx, hb, hml, hown, hts⟩ (c_X12_give2 l E h0 q i_taped i_size i_sort i_what i_at i_end i_worth i_faultKind i_faultPlace i_got i_worked i_isPlanned u_46 u_47 dl FF CC (pg gp 1 2) a_least f_72 u_49 f_64 H.size hdl hd2 (pg_le hp (by decide)) (st_put hSt hp2) hv2 (BG_M M_s hw_45) hKm hCb hI_73) (cwV 1 hts gX12_give_X12_give rfl rfl rfl hdV_X12_give ⟨Nat.le_of_ble_eq_true rfl, Nat.le_of_ble_eq_true rfl⟩) ⟨pcW_blind, va_recv hK hPc (ci := 12) (q0 := 0) rfl rfl, (pcW_pre hPc hkn hDc hst hS hFc)⟩ rfl rfl hl.1 rfl (lv_room (Nat.le_of_ble_eq_true rfl)) dX12_give_200 ⟨Nat.le_of_ble_eq_true rfl, Nat.le_of_ble_eq_true rfl⟩) hS (fun q _ h => hFc q h) hFc (fun u t H1 locs ht hvm hw_76 hB hz1 hk1 hS => ?_)
    obtain ⟨u_77, u_78, u_79, u_80, u_81⟩ := u
    obtain ⟨hf_82, hf_83, hf_84, hP1, hD1⟩ := hB
    rw [ht] at hP1
    try dsimp only at hw_76
    obtain ⟨hP, hD⟩ := va_join (wr := []) (w1 := [(h0, .inr (12, mG q i_taped i_size i_sort i_what i_at i_end i_worth i_faultKind i_faultPlace i_got i_worked (nI dl) i_isPlanned u_77 u_78)), (q 51, .inl (E.2.1 0, 512, .inl a_least)), (q 55, .inl (E.2.1 0, 4, .inl u_79)), (q 54, .inl (E.2.1 0, 7, .inl u_80)), (q 53, .inl (E.2.1 0, 7, .inl u_81))]) hP hD [0, 1, 2, 3, 4] [] rfl rfl (by decide) (by decide) hk1 hFc hP1 hD1
    generalize H1 = H at hP hS ⊢
    have hP : va_P E.1 vwCl [(h0, .inr (12, mG q i_taped i_size i_sort i_what i_at i_end i_worth i_faultKind i_faultPlace i_got i_worked (nI dl) i_isPlanned u_77 u_78)), (q 51, .inl (E.2.1 0, 512, .inl a_least)), (q 55, .inl (E.2.1 0, 4, .inl u_79)), (q 54, .inl (E.2.1 0, 7, .inl u_80)), (q 53, .inl (E.2.1 0, 7, .inl u_81))] H := hP
    have hD : va_D A [(h0, .inr (12, mG q i_taped i_size i_sort i_what i_at i_end i_worth i_faultKind i_faultPlace i_got i_worked (nI dl) i_isPlanned u_77 u_78)), (q 51, .inl (E.2.1 0, 512, .inl a_least)), (q 55, .inl (E.2.1 0, 4, .inl u_79)), (q 54, .inl (E.2.1 0, 7, .inl u_80)), (q 53, .inl (E.2.1 0, 7, .inl u_81))] := hD
    refine lv_aload_n hx hb dX12_give_203 rfl (lv_at hl 1 rfl) ?_
    refine va_get (D := E.1) (ci := 12) (v := .ref (q 55)) (C := RX12) (T := TX12) (N := 59) hx hb hts inX12 hown hK hP 0 rfl rfl 55 (by decide) fl142 (fun _ h9 => h9) rfl dX12_give_204 ?_
    refine lv_iload_n hx hb dX12_give_207 rfl (lv_at hl 0 rfl) ?_
    refine lv_dup2_11 hx hb dX12_give_208 rfl rfl ?_
    refine va_iald hx hb hK hP 2 0 rfl rfl (show vp_in 2 4 from by unfold vp_in; decide) dX12_give_209 ?_
    refine lv_topi (fun x_85 ex_85 => ?_)
    have hv_86 : inR x_85 0 127 = true := by rw [ex_85]; exact hf_82 _ (vin_cl (show vp_in 2 4 from by unfold vp_in; decide))
    obtain ⟨w_87, hw_88, ew_89⟩ := inR_nI (n := 127) (by decide) hv_86
    subst ew_89
    refine lv_iconst (v := 1) hx hb dX12_give_210 (by decide) ?_
    refine lv_iload_n hx hb dX12_give_211 rfl (lv_at hl 2 rfl) ?_
    refine lv_ishl hx hb dX12_give_212 ?_
    refine lv_topi (fun x_90 ex_90 => ?_)
    obtain rfl : x_90 = 2 := ex_90.trans (by decide +kernel)
    refine lv_iconst (v := (-1)) hx hb dX12_give_213 (by decide) ?_
    refine lv_ixor hx hb dX12_give_214 ?_
    refine lv_topi (fun x_91 ex_91 => ?_)
    obtain rfl : x_91 = (-3) := ex_91.trans (by decide +kernel)
    refine lv_iand hx hb dX12_give_215 ?_
    refine lv_topi (fun x_92 ex_92 => ?_)
    refine va_iast hx hb hK hP hD hS 2 0 rfl rfl (show vp_in 2 4 from by unfold vp_in; decide) dX12_give_216 (fun H locs hP hD hS => ?_)
    have hP : va_P E.1 vwCl [(h0, .inr (12, mG q i_taped i_size i_sort i_what i_at i_end i_worth i_faultKind i_faultPlace i_got i_worked (nI dl) i_isPlanned u_77 u_78)), (q 51, .inl (E.2.1 0, 512, .inl a_least)), (q 55, .inl (E.2.1 0, 4, .inl (upd u_79 (Int32.toNatClampNeg 2) x_92))), (q 54, .inl (E.2.1 0, 7, .inl u_80)), (q 53, .inl (E.2.1 0, 7, .inl u_81))] H := hP
    have hD : va_D A [(h0, .inr (12, mG q i_taped i_size i_sort i_what i_at i_end i_worth i_faultKind i_faultPlace i_got i_worked (nI dl) i_isPlanned u_77 u_78)), (q 51, .inl (E.2.1 0, 512, .inl a_least)), (q 55, .inl (E.2.1 0, 4, .inl (upd u_79 (Int32.toNatClampNeg 2) x_92))), (q 54, .inl (E.2.1 0, 7, .inl u_80)), (q 53, .inl (E.2.1 0, 7, .inl u_81))] := hD
    obtain ⟨f_93, ef_93⟩ : ∃ g : Nat → Int32, g = upd u_79 (Int32.toNatClampNeg 2) x_92 := ⟨_, rfl⟩
    rw [← ef_93] at hP hD
    have hI_94 : ∀ k : Nat, k < 4 → inR (f_93 k) 0 127 = true := by rw [ef_93]; exact all_upd (P := fun z => inR z 0 127 = true) hf_82 (by rw [ex_92]; exact and_lt7 _ (by omega) 1 (by decide))
    have hb2 : ∀ i : Nat, i < 4 → f_93 i = a_sets i := gback_of (u := u_79) (x := x_92) (y := nI w_87) (z := (-3)) (by decide) (by decide) ⟨gp, hSt⟩ hp2 hf_83 (ef_93.trans (by rw [show Int32.toNatClampNeg 2 = 2 from by decide])) ex_92 (ex_85.trans (by rw [show Int32.toNatClampNeg 2 = 2 from by decide])) (by decide)
    refine lv_iinc (v := 3) (lv' := [(2, .int 3), (0, .ref h0), (1, .int 1)]) hx hb dX12_give_217 hl (k := 0) rfl (by decide) (by decide) rfl (fun ls hl => ?_)
    refine lv_goto (tgt := 172) hx hb dX12_give_220 (by decide) ?_
    refine lv_iload_n hx hb dX12_give_172 rfl (lv_at hl 0 rfl) ?_
    refine lv_iconst (v := 4) hx hb dX12_give_173 (by decide) ?_
    refine lv_icmp_ge (tgt := 223) hx hb dX12_give_174 (by decide) (fun c9 => absurd c9 (by decide)) (fun _ => ?_)
    refine lv_aload_n hx hb dX12_give_177 rfl (lv_at hl 1 rfl) ?_
    refine va_get (D := E.1) (ci := 12) (v := .ref (q 53)) (C := RX12) (T := TX12) (N := 59) hx hb hts inX12 hown hK hP 0 rfl rfl 53 (by decide) fl136 (fun _ h9 => h9) rfl dX12_give_178 ?_
    refine lv_iload_n hx hb dX12_give_181 rfl (lv_at hl 2 rfl) ?_
    refine lv_iload_n hx hb dX12_give_182 rfl (lv_at hl 0 rfl) ?_
    refine va_iast hx hb hK hP hD hS 4 0 rfl rfl (show vp_in 1 7 from by unfold vp_in; decide) dX12_give_183 (fun H locs hP hD hS => ?_)
    have hP : va_P E.1 vwCl [(h0, .inr (12, mG q i_taped i_size i_sort i_what i_at i_end i_worth i_faultKind i_faultPlace i_got i_worked (nI dl) i_isPlanned u_77 u_78)), (q 51, .inl (E.2.1 0, 512, .inl a_least)), (q 55, .inl (E.2.1 0, 4, .inl f_93)), (q 54, .inl (E.2.1 0, 7, .inl u_80)), (q 53, .inl (E.2.1 0, 7, .inl (upd u_81 (Int32.toNatClampNeg 1) 3)))] H := hP
    have hD : va_D A [(h0, .inr (12, mG q i_taped i_size i_sort i_what i_at i_end i_worth i_faultKind i_faultPlace i_got i_worked (nI dl) i_isPlanned u_77 u_78)), (q 51, .inl (E.2.1 0, 512, .inl a_least)), (q 55, .inl (E.2.1 0, 4, .inl f_93)), (q 54, .inl (E.2.1 0, 7, .inl u_80)), (q 53, .inl (E.2.1 0, 7, .inl (upd u_81 (Int32.toNatClampNeg 1) 3)))] := hD
    obtain ⟨f_95, ef_95⟩ : ∃ g : Nat → Int32, g = upd u_81 (Int32.toNatClampNeg 1) 3 := ⟨_, rfl⟩
    rw [← ef_95] at hP hD
    refine lv_aload_n hx hb dX12_give_184 rfl (lv_at hl 1 rfl) ?_
    refine va_get (D := E.1) (ci := 12) (v := .ref (q 55)) (C := RX12) (T := TX12) (N := 59) hx hb hts inX12 hown hK hP 0 rfl rfl 55 (by decide) fl142 (fun _ h9 => h9) rfl dX12_give_185 ?_
    refine lv_iload_n hx hb dX12_give_188 rfl (lv_at hl 0 rfl) ?_
    refine lv_dup2_11 hx hb dX12_give_189 rfl rfl ?_
    refine va_iald hx hb hK hP 2 0 rfl rfl (show vp_in 3 4 from by unfold vp_in; decide) dX12_give_190 ?_
    refine lv_topi (fun x_96 ex_96 => ?_)
    have hv_97 : inR x_96 0 127 = true := by rw [ex_96]; exact hI_94 _ (vin_cl (show vp_in 3 4 from by unfold vp_in; decide))
    obtain ⟨w_98, hw_99, ew_100⟩ := inR_nI (n := 127) (by decide) hv_97
    subst ew_100
    refine lv_iconst (v := 1) hx hb dX12_give_191 (by decide) ?_
    refine lv_iload_n hx hb dX12_give_192 rfl (lv_at hl 2 rfl) ?_
    refine lv_ishl hx hb dX12_give_193 ?_
    refine lv_topi (fun x_101 ex_101 => ?_)
    obtain rfl : x_101 = 2 := ex_101.trans (by decide +kernel)
    refine lv_ior hx hb dX12_give_194 ?_
    refine lv_topi (fun x_102 ex_102 => ?_)
    refine va_iast hx hb hK hP hD hS 2 0 rfl rfl (show vp_in 3 4 from by unfold vp_in; decide) dX12_give_195 (fun H locs hP hD hS => ?_)
    have hP : va_P E.1 vwCl [(h0, .inr (12, mG q i_taped i_size i_sort i_what i_at i_end i_worth i_faultKind i_faultPlace i_got i_worked (nI dl) i_isPlanned u_77 u_78)), (q 51, .inl (E.2.1 0, 512, .inl a_least)), (q 55, .inl (E.2.1 0, 4, .inl (upd f_93 (Int32.toNatClampNeg 3) x_102))), (q 54, .inl (E.2.1 0, 7, .inl u_80)), (q 53, .inl (E.2.1 0, 7, .inl f_95))] H := hP
    have hD : va_D A [(h0, .inr (12, mG q i_taped i_size i_sort i_what i_at i_end i_worth i_faultKind i_faultPlace i_got i_worked (nI dl) i_isPlanned u_77 u_78)), (q 51, .inl (E.2.1 0, 512, .inl a_least)), (q 55, .inl (E.2.1 0, 4, .inl (upd f_93 (Int32.toNatClampNeg 3) x_102))), (q 54, .inl (E.2.1 0, 7, .inl u_80)), (q 53, .inl (E.2.1 0, 7, .inl f_95))] := hD
    obtain ⟨f_103, ef_103⟩ : ∃ g : Nat → Int32, g = upd f_93 (Int32.toNatClampNeg 3) x_102 := ⟨_, rfl⟩
    rw [← ef_103] at hP hD
    have hI_104 : ∀ k : Nat, k < 4 → inR (f_103 k) 0 127 = true := by rw [ef_103]; exact all_upd (P := fun z => inR z 0 127 = true) hI_94 (by rw [ex_102]; exact or_lt7 _ (by omega) 1 (by decide))
    refine lv_aload_n hx hb dX12_give_196 rfl (lv_at hl 1 rfl) ?_
    refine lv_iload_n hx hb dX12_give_197 rfl (lv_at hl 2 rfl) ?_
    refine lv_iconst (v := 1) hx hb dX12_give_198 (by decide) ?_
    refine lv_iadd hx hb dX12_give_199 ?_
    refine lv_topi (fun x_105 ex_105 => ?_)
    obtain rfl : x_105 = 2 := ex_105.trans (by decide +kernel)
    have hp3 : ∀ i : Nat, i < 4 → f_103 i = put a_sets 3 1 i := put_of (prev := f_93) (x := x_102) (y := nI w_98) (z := 2) hb2 (by decide) (ef_103.trans (by rw [show Int32.toNatClampNeg 3 = 3 from by decide])) ex_102 (ex_96.trans (by rw [show Int32.toNatClampNeg 3 = 3 from by decide])) (by decide)
    have hv3 : ∀ k : Nat, k < 1 + 1 → f_95 k = gI (pg gp 1 3 k) := gv_put (cur := u_81) (gv_cur (gv_cur (gv_cur (fun k hk => rfl) (ef_2.trans (by rw [show Int32.toNatClampNeg 1 = 1 from by decide])) hf_22) (ef_33.trans (by rw [show Int32.toNatClampNeg 1 = 1 from by decide])) hf_53) (ef_64.trans (by rw [show Int32.toNatClampNeg 1 = 1 from by decide])) hf_84) hGv (ef_95.trans (by rw [show Int32.toNatClampNeg 1 = 1 from by decide])) (by decide)
    have hPc := hP.sub (ws' := [(h0, .inr (12, mG q i_taped i_size i_sort i_what i_at i_end i_worth i_faultKind i_faultPlace i_got i_worked (nI dl) i_isPlanned u_77 u_78)), (q 51, .inl (E.2.1 0, 512, .inl a_least)), (q 55, .inl (E.2.1 0, 4, .inl f_103)), (q 54, .inl (E.2.1 0, 7, .inl u_80)), (q 53, .inl (E.2.1 0, 7, .inl f_95))]) [0, 1, 2, 3, 4] rfl
    have hDc := hD.sub (ws' := [(h0, .inr (12, mG q i_taped i_size i_sort i_what i_at i_end i_worth i_faultKind i_faultPlace i_got i_worked (nI dl) i_isPlanned u_77 u_78)), (q 51, .inl (E.2.1 0, 512, .inl a_least)), (q 55, .inl (E.2.1 0, 4, .inl f_103)), (q 54, .inl (E.2.1 0, 7, .inl u_80)), (q 53, .inl (E.2.1 0, 7, .inl f_95))]) [0, 1, 2, 3, 4] (by decide) rfl
    have hFc := va_free (wc := [(h0, .inr (12, mG q i_taped i_size i_sort i_what i_at i_end i_worth i_faultKind i_faultPlace i_got i_worked (nI dl) i_isPlanned u_77 u_78)), (q 51, .inl (E.2.1 0, 512, .inl a_least)), (q 55, .inl (E.2.1 0, 4, .inl f_103)), (q 54, .inl (E.2.1 0, 7, .inl u_80)), (q 53, .inl (E.2.1 0, 7, .inl f_95))]) hD hS hA [0, 1, 2, 3, 4] rfl
    refine va_callv (va_runV (As := [.int 2]) (rest := []) ⟨hx, hb, hml, hown, hts⟩ (c_X12_give2 l E h0 q i_taped i_size i_sort i_what i_at i_end i_worth i_faultKind i_faultPlace i_got i_worked i_isPlanned u_77 u_78 dl FF CC (pg gp 1 3) a_least f_103 u_80 f_95 H.size hdl hd2 (pg_le hp (by decide)) (st_put hSt hp3) hv3 (BG_M M_s hw_76) hKm hCb hI_104) (cwV 1 hts gX12_give_X12_give rfl rfl rfl hdV_X12_give ⟨Nat.le_of_ble_eq_true rfl, Nat.le_of_ble_eq_true rfl⟩) ⟨pcW_blind, va_recv hK hPc (ci := 12) (q0 := 0) rfl rfl, (pcW_pre hPc hkn hDc hst hS hFc)⟩ rfl rfl hl.1 rfl (lv_room (Nat.le_of_ble_eq_true rfl)) dX12_give_200 ⟨Nat.le_of_ble_eq_true rfl, Nat.le_of_ble_eq_true rfl⟩) hS (fun q _ h => hFc q h) hFc (fun u t H1 locs ht hvm hw_107 hB hz1 hk1 hS => ?_)
    obtain ⟨u_108, u_109, u_110, u_111, u_112⟩ := u
    obtain ⟨hf_113, hf_114, hf_115, hP1, hD1⟩ := hB
    rw [ht] at hP1
    try dsimp only at hw_107
    obtain ⟨hP, hD⟩ := va_join (wr := []) (w1 := [(h0, .inr (12, mG q i_taped i_size i_sort i_what i_at i_end i_worth i_faultKind i_faultPlace i_got i_worked (nI dl) i_isPlanned u_108 u_109)), (q 51, .inl (E.2.1 0, 512, .inl a_least)), (q 55, .inl (E.2.1 0, 4, .inl u_110)), (q 54, .inl (E.2.1 0, 7, .inl u_111)), (q 53, .inl (E.2.1 0, 7, .inl u_112))]) hP hD [0, 1, 2, 3, 4] [] rfl rfl (by decide) (by decide) hk1 hFc hP1 hD1
    generalize H1 = H at hP hS ⊢
    have hP : va_P E.1 vwCl [(h0, .inr (12, mG q i_taped i_size i_sort i_what i_at i_end i_worth i_faultKind i_faultPlace i_got i_worked (nI dl) i_isPlanned u_108 u_109)), (q 51, .inl (E.2.1 0, 512, .inl a_least)), (q 55, .inl (E.2.1 0, 4, .inl u_110)), (q 54, .inl (E.2.1 0, 7, .inl u_111)), (q 53, .inl (E.2.1 0, 7, .inl u_112))] H := hP
    have hD : va_D A [(h0, .inr (12, mG q i_taped i_size i_sort i_what i_at i_end i_worth i_faultKind i_faultPlace i_got i_worked (nI dl) i_isPlanned u_108 u_109)), (q 51, .inl (E.2.1 0, 512, .inl a_least)), (q 55, .inl (E.2.1 0, 4, .inl u_110)), (q 54, .inl (E.2.1 0, 7, .inl u_111)), (q 53, .inl (E.2.1 0, 7, .inl u_112))] := hD
    refine lv_aload_n hx hb dX12_give_203 rfl (lv_at hl 1 rfl) ?_
    refine va_get (D := E.1) (ci := 12) (v := .ref (q 55)) (C := RX12) (T := TX12) (N := 59) hx hb hts inX12 hown hK hP 0 rfl rfl 55 (by decide) fl142 (fun _ h9 => h9) rfl dX12_give_204 ?_
    refine lv_iload_n hx hb dX12_give_207 rfl (lv_at hl 0 rfl) ?_
    refine lv_dup2_11 hx hb dX12_give_208 rfl rfl ?_
    refine va_iald hx hb hK hP 2 0 rfl rfl (show vp_in 3 4 from by unfold vp_in; decide) dX12_give_209 ?_
    refine lv_topi (fun x_116 ex_116 => ?_)
    have hv_117 : inR x_116 0 127 = true := by rw [ex_116]; exact hf_113 _ (vin_cl (show vp_in 3 4 from by unfold vp_in; decide))
    obtain ⟨w_118, hw_119, ew_120⟩ := inR_nI (n := 127) (by decide) hv_117
    subst ew_120
    refine lv_iconst (v := 1) hx hb dX12_give_210 (by decide) ?_
    refine lv_iload_n hx hb dX12_give_211 rfl (lv_at hl 2 rfl) ?_
    refine lv_ishl hx hb dX12_give_212 ?_
    refine lv_topi (fun x_121 ex_121 => ?_)
    obtain rfl : x_121 = 2 := ex_121.trans (by decide +kernel)
    refine lv_iconst (v := (-1)) hx hb dX12_give_213 (by decide) ?_
    refine lv_ixor hx hb dX12_give_214 ?_
    refine lv_topi (fun x_122 ex_122 => ?_)
    obtain rfl : x_122 = (-3) := ex_122.trans (by decide +kernel)
    refine lv_iand hx hb dX12_give_215 ?_
    refine lv_topi (fun x_123 ex_123 => ?_)
    refine va_iast hx hb hK hP hD hS 2 0 rfl rfl (show vp_in 3 4 from by unfold vp_in; decide) dX12_give_216 (fun H locs hP hD hS => ?_)
    have hP : va_P E.1 vwCl [(h0, .inr (12, mG q i_taped i_size i_sort i_what i_at i_end i_worth i_faultKind i_faultPlace i_got i_worked (nI dl) i_isPlanned u_108 u_109)), (q 51, .inl (E.2.1 0, 512, .inl a_least)), (q 55, .inl (E.2.1 0, 4, .inl (upd u_110 (Int32.toNatClampNeg 3) x_123))), (q 54, .inl (E.2.1 0, 7, .inl u_111)), (q 53, .inl (E.2.1 0, 7, .inl u_112))] H := hP
    have hD : va_D A [(h0, .inr (12, mG q i_taped i_size i_sort i_what i_at i_end i_worth i_faultKind i_faultPlace i_got i_worked (nI dl) i_isPlanned u_108 u_109)), (q 51, .inl (E.2.1 0, 512, .inl a_least)), (q 55, .inl (E.2.1 0, 4, .inl (upd u_110 (Int32.toNatClampNeg 3) x_123))), (q 54, .inl (E.2.1 0, 7, .inl u_111)), (q 53, .inl (E.2.1 0, 7, .inl u_112))] := hD
    obtain ⟨f_124, ef_124⟩ : ∃ g : Nat → Int32, g = upd u_110 (Int32.toNatClampNeg 3) x_123 := ⟨_, rfl⟩
    rw [← ef_124] at hP hD
    have hI_125 : ∀ k : Nat, k < 4 → inR (f_124 k) 0 127 = true := by rw [ef_124]; exact all_upd (P := fun z => inR z 0 127 = true) hf_113 (by rw [ex_123]; exact and_lt7 _ (by omega) 1 (by decide))
    have hb3 : ∀ i : Nat, i < 4 → f_124 i = a_sets i := gback_of (u := u_110) (x := x_123) (y := nI w_118) (z := (-3)) (by decide) (by decide) ⟨gp, hSt⟩ hp3 hf_114 (ef_124.trans (by rw [show Int32.toNatClampNeg 3 = 3 from by decide])) ex_123 (ex_116.trans (by rw [show Int32.toNatClampNeg 3 = 3 from by decide])) (by decide)
    refine lv_iinc (v := 4) (lv' := [(2, .int 4), (0, .ref h0), (1, .int 1)]) hx hb dX12_give_217 hl (k := 0) rfl (by decide) (by decide) rfl (fun ls hl => ?_)
    refine lv_goto (tgt := 172) hx hb dX12_give_220 (by decide) ?_
    refine lv_iload_n hx hb dX12_give_172 rfl (lv_at hl 0 rfl) ?_
    refine lv_iconst (v := 4) hx hb dX12_give_173 (by decide) ?_
    refine lv_icmp_ge (tgt := 223) hx hb dX12_give_174 (by decide) (fun _ => ?_) (fun c9 => absurd c9 (by decide))
    refine lv_aload_n hx hb dX12_give_223 rfl (lv_at hl 1 rfl) ?_
    refine va_get (D := E.1) (ci := 12) (v := .ref (q 53)) (C := RX12) (T := TX12) (N := 59) hx hb hts inX12 hown hK hP 0 rfl rfl 53 (by decide) fl136 (fun _ h9 => h9) rfl dX12_give_224 ?_
    refine lv_iload_n hx hb dX12_give_227 rfl (lv_at hl 2 rfl) ?_
    refine lv_iconst (v := (-1)) hx hb dX12_give_228 (by decide) ?_
    refine va_iast hx hb hK hP hD hS 4 0 rfl rfl (show vp_in 1 7 from by unfold vp_in; decide) dX12_give_229 (fun H locs hP hD hS => ?_)
    have hP : va_P E.1 vwCl [(h0, .inr (12, mG q i_taped i_size i_sort i_what i_at i_end i_worth i_faultKind i_faultPlace i_got i_worked (nI dl) i_isPlanned u_108 u_109)), (q 51, .inl (E.2.1 0, 512, .inl a_least)), (q 55, .inl (E.2.1 0, 4, .inl f_124)), (q 54, .inl (E.2.1 0, 7, .inl u_111)), (q 53, .inl (E.2.1 0, 7, .inl (upd u_112 (Int32.toNatClampNeg 1) (-1))))] H := hP
    have hD : va_D A [(h0, .inr (12, mG q i_taped i_size i_sort i_what i_at i_end i_worth i_faultKind i_faultPlace i_got i_worked (nI dl) i_isPlanned u_108 u_109)), (q 51, .inl (E.2.1 0, 512, .inl a_least)), (q 55, .inl (E.2.1 0, 4, .inl f_124)), (q 54, .inl (E.2.1 0, 7, .inl u_111)), (q 53, .inl (E.2.1 0, 7, .inl (upd u_112 (Int32.toNatClampNeg 1) (-1))))] := hD
    obtain ⟨f_126, ef_126⟩ : ∃ g : Nat → Int32, g = upd u_112 (Int32.toNatClampNeg 1) (-1) := ⟨_, rfl⟩
    rw [← ef_126] at hP hD
    refine lv_aload_n hx hb dX12_give_230 rfl (lv_at hl 1 rfl) ?_
    refine lv_iload_n hx hb dX12_give_231 rfl (lv_at hl 2 rfl) ?_
    refine lv_iconst (v := 1) hx hb dX12_give_232 (by decide) ?_
    refine lv_iadd hx hb dX12_give_233 ?_
    refine lv_topi (fun x_127 ex_127 => ?_)
    obtain rfl : x_127 = 2 := ex_127.trans (by decide +kernel)
    have hv4 : ∀ k : Nat, k < 1 + 1 → f_126 k = gI (pg gp 1 4 k) := gv_put (cur := u_112) (gv_cur (gv_cur (gv_cur (gv_cur (fun k hk => rfl) (ef_2.trans (by rw [show Int32.toNatClampNeg 1 = 1 from by decide])) hf_22) (ef_33.trans (by rw [show Int32.toNatClampNeg 1 = 1 from by decide])) hf_53) (ef_64.trans (by rw [show Int32.toNatClampNeg 1 = 1 from by decide])) hf_84) (ef_95.trans (by rw [show Int32.toNatClampNeg 1 = 1 from by decide])) hf_115) hGv (ef_126.trans (by rw [show Int32.toNatClampNeg 1 = 1 from by decide])) (by decide)
    have hPc := hP.sub (ws' := [(h0, .inr (12, mG q i_taped i_size i_sort i_what i_at i_end i_worth i_faultKind i_faultPlace i_got i_worked (nI dl) i_isPlanned u_108 u_109)), (q 51, .inl (E.2.1 0, 512, .inl a_least)), (q 55, .inl (E.2.1 0, 4, .inl f_124)), (q 54, .inl (E.2.1 0, 7, .inl u_111)), (q 53, .inl (E.2.1 0, 7, .inl f_126))]) [0, 1, 2, 3, 4] rfl
    have hDc := hD.sub (ws' := [(h0, .inr (12, mG q i_taped i_size i_sort i_what i_at i_end i_worth i_faultKind i_faultPlace i_got i_worked (nI dl) i_isPlanned u_108 u_109)), (q 51, .inl (E.2.1 0, 512, .inl a_least)), (q 55, .inl (E.2.1 0, 4, .inl f_124)), (q 54, .inl (E.2.1 0, 7, .inl u_111)), (q 53, .inl (E.2.1 0, 7, .inl f_126))]) [0, 1, 2, 3, 4] (by decide) rfl
    have hFc := va_free (wc := [(h0, .inr (12, mG q i_taped i_size i_sort i_what i_at i_end i_worth i_faultKind i_faultPlace i_got i_worked (nI dl) i_isPlanned u_108 u_109)), (q 51, .inl (E.2.1 0, 512, .inl a_least)), (q 55, .inl (E.2.1 0, 4, .inl f_124)), (q 54, .inl (E.2.1 0, 7, .inl u_111)), (q 53, .inl (E.2.1 0, 7, .inl f_126))]) hD hS hA [0, 1, 2, 3, 4] rfl
    refine va_callv (va_runV (As := [.int 2]) (rest := []) ⟨hx, hb, hml, hown, hts⟩ (c_X12_give2 l E h0 q i_taped i_size i_sort i_what i_at i_end i_worth i_faultKind i_faultPlace i_got i_worked i_isPlanned u_108 u_109 dl FF CC (pg gp 1 4) a_least f_124 u_111 f_126 H.size hdl hd2 (pg_le hp (by decide)) (st_none hSt hb3) hv4 (BG_M M_s hw_107) hKm hCb hI_125) (cwV 1 hts gX12_give_X12_give rfl rfl rfl hdV_X12_give ⟨Nat.le_of_ble_eq_true rfl, Nat.le_of_ble_eq_true rfl⟩) ⟨pcW_blind, va_recv hK hPc (ci := 12) (q0 := 0) rfl rfl, (pcW_pre hPc hkn hDc hst hS hFc)⟩ rfl rfl hl.1 rfl (lv_room (Nat.le_of_ble_eq_true rfl)) dX12_give_234 ⟨Nat.le_of_ble_eq_true rfl, Nat.le_of_ble_eq_true rfl⟩) hS (fun q _ h => hFc q h) hFc (fun u t H1 locs ht hvm hw_129 hB hz1 hk1 hS => ?_)
    obtain ⟨u_130, u_131, u_132, u_133, u_134⟩ := u
    obtain ⟨hf_135, hf_136, hf_137, hP1, hD1⟩ := hB
    rw [ht] at hP1
    try dsimp only at hw_129
    obtain ⟨hP, hD⟩ := va_join (wr := []) (w1 := [(h0, .inr (12, mG q i_taped i_size i_sort i_what i_at i_end i_worth i_faultKind i_faultPlace i_got i_worked (nI dl) i_isPlanned u_130 u_131)), (q 51, .inl (E.2.1 0, 512, .inl a_least)), (q 55, .inl (E.2.1 0, 4, .inl u_132)), (q 54, .inl (E.2.1 0, 7, .inl u_133)), (q 53, .inl (E.2.1 0, 7, .inl u_134))]) hP hD [0, 1, 2, 3, 4] [] rfl rfl (by decide) (by decide) hk1 hFc hP1 hD1
    generalize H1 = H at hP hS ⊢
    have hP : va_P E.1 vwCl [(h0, .inr (12, mG q i_taped i_size i_sort i_what i_at i_end i_worth i_faultKind i_faultPlace i_got i_worked (nI dl) i_isPlanned u_130 u_131)), (q 51, .inl (E.2.1 0, 512, .inl a_least)), (q 55, .inl (E.2.1 0, 4, .inl u_132)), (q 54, .inl (E.2.1 0, 7, .inl u_133)), (q 53, .inl (E.2.1 0, 7, .inl u_134))] H := hP
    have hD : va_D A [(h0, .inr (12, mG q i_taped i_size i_sort i_what i_at i_end i_worth i_faultKind i_faultPlace i_got i_worked (nI dl) i_isPlanned u_130 u_131)), (q 51, .inl (E.2.1 0, 512, .inl a_least)), (q 55, .inl (E.2.1 0, 4, .inl u_132)), (q 54, .inl (E.2.1 0, 7, .inl u_133)), (q 53, .inl (E.2.1 0, 7, .inl u_134))] := hD
    have hP9 := hP.sub (ws' := [(h0, .inr (12, mG q i_taped i_size i_sort i_what i_at i_end i_worth i_faultKind i_faultPlace i_got i_worked (nI dl) i_isPlanned u_130 u_131)), (q 51, .inl (E.2.1 0, 512, .inl a_least)), (q 55, .inl (E.2.1 0, 4, .inl u_132)), (q 54, .inl (E.2.1 0, 7, .inl u_133)), (q 53, .inl (E.2.1 0, 7, .inl u_134))]) [0, 1, 2, 3, 4] rfl
    have hD9 := hD.sub (ws' := [(h0, .inr (12, mG q i_taped i_size i_sort i_what i_at i_end i_worth i_faultKind i_faultPlace i_got i_worked (nI dl) i_isPlanned u_130 u_131)), (q 51, .inl (E.2.1 0, 512, .inl a_least)), (q 55, .inl (E.2.1 0, 4, .inl u_132)), (q 54, .inl (E.2.1 0, 7, .inl u_133)), (q 53, .inl (E.2.1 0, 7, .inl u_134))]) [0, 1, 2, 3, 4] (by decide) rfl
    exact W.vret hx hb hr (fun t ht hW => ⟨⟨(u_130, u_131, u_132, u_133, u_134), rfl, (BG_M (M_5 hd2) hw_129), hf_135, (fun i hi => (hf_136 i hi).trans (hb3 i hi)), (gv_cur (gv_cur (gv_cur (gv_cur (gv_cur (fun k hk => rfl) (ef_2.trans (by rw [show Int32.toNatClampNeg 1 = 1 from by decide])) hf_22) (ef_33.trans (by rw [show Int32.toNatClampNeg 1 = 1 from by decide])) hf_53) (ef_64.trans (by rw [show Int32.toNatClampNeg 1 = 1 from by decide])) hf_84) (ef_95.trans (by rw [show Int32.toNatClampNeg 1 = 1 from by decide])) hf_115) (ef_126.trans (by rw [show Int32.toNatClampNeg 1 = 1 from by decide])) hf_137), by rw [ht]; exact hP9, hD9⟩, hS.F ht⟩) hS.2.2 dX12_give_237
  · have hn9 : dl = 1 := ((nI_eq (a := 1) (by decide) (by omega)).mp c_1).symm
    have hB9 := BG_pre hn9 hBG
    have hp9 : ∀ k : Nat, k < dl → gp k ≤ 4 := fun k hk => hp k (by omega)
    refine lv_iconst (v := 0) hx hb dX12_give_8 (by decide) ?_
    refine lv_istore_n (lv' := [(2, .int 0), (0, .ref h0), (1, .int 1)]) hx hb dX12_give_9 rfl hl (by decide) rfl (fun ls hl => ?_)
    refine lv_iconst (v := 0) hx hb dX12_give_10 (by decide) ?_
    refine lv_istore_n (lv' := [(3, .int 0), (2, .int 0), (0, .ref h0), (1, .int 1)]) hx hb dX12_give_11 rfl hl (by decide) rfl (fun ls hl => ?_)
    refine lv_iconst (v := 0) hx hb dX12_give_12 (by decide) ?_
    refine lv_istore (lv' := [(4, .int 0), (3, .int 0), (2, .int 0), (0, .ref h0), (1, .int 1)]) hx hb dX12_give_13 hl (by decide) rfl (fun ls hl => ?_)
    refine lv_iload hx hb dX12_give_15 (lv_at hl 0 rfl) ?_
    refine lv_iconst (v := 4) hx hb dX12_give_17 (by decide) ?_
    refine lv_icmp_ge (tgt := 102) hx hb dX12_give_18 (by decide) (fun c9 => absurd c9 (by decide)) (fun _ => ?_)
    refine lv_aload_n hx hb dX12_give_21 rfl (lv_at hl 3 rfl) ?_
    refine va_get (D := E.1) (ci := 12) (v := .ref (q 51)) (C := RX12) (T := TX12) (N := 59) hx hb hts inX12 hown hK hP 0 rfl rfl 51 (by decide) fl130 (fun _ h9 => h9) rfl dX12_give_22 ?_
    refine lv_sipush (v := 128) hx hb dX12_give_25 (by decide) ?_
    refine lv_iload hx hb dX12_give_28 (lv_at hl 0 rfl) ?_
    refine lv_imul hx hb dX12_give_30 ?_
    refine lv_topi (fun x_138 ex_138 => ?_)
    obtain rfl : x_138 = 0 := ex_138.trans (by decide +kernel)
    refine lv_aload_n hx hb dX12_give_31 rfl (lv_at hl 3 rfl) ?_
    refine va_get (D := E.1) (ci := 12) (v := .ref (q 55)) (C := RX12) (T := TX12) (N := 59) hx hb hts inX12 hown hK hP 0 rfl rfl 55 (by decide) fl142 (fun _ h9 => h9) rfl dX12_give_32 ?_
    refine lv_iload hx hb dX12_give_35 (lv_at hl 0 rfl) ?_
    refine va_iald hx hb hK hP 2 0 rfl rfl (show vp_in 0 4 from by unfold vp_in; decide) dX12_give_37 ?_
    refine lv_topi (fun x_139 ex_139 => ?_)
    have hv_140 : inR x_139 0 127 = true := by rw [ex_139]; exact hI_sets _ (vin_cl (show vp_in 0 4 from by unfold vp_in; decide))
    obtain ⟨w_141, hw_142, ew_143⟩ := inR_nI (n := 127) (by decide) hv_140
    subst ew_143
    have hw09 : w_141 = setOf gp 0 dl := by rw [hn9]; exact nI_inj (by omega) (s128 gp 0 (by decide)) (ex_139.trans (by rw [show Int32.toNatClampNeg 0 = 0 from by decide]; exact hSt 0 (by decide)))
    refine lv_iadd hx hb dX12_give_38 ?_
    refine lv_topi (fun x_144 ex_144 => ?_)
    obtain rfl : x_144 = nI (0 + w_141) := ex_144.trans (nI_add 0 w_141)
    have hi_145 : vp_in (nI (0 + w_141)) 512 := vp_in_nI (by omega) (by decide)
    refine va_iald hx hb hK hP 1 0 rfl rfl hi_145 dX12_give_39 ?_
    refine lv_topi (fun x_146 ex_146 => ?_)
    refine lv_iconst (v := (-1)) hx hb dX12_give_40 (by decide) ?_
    refine lv_icmp_ne (tgt := 45) hx hb dX12_give_41 (by decide) (fun c_147 => ?_) (fun c_147 => ?_)
    · have hn09 : ¬ a_least (128 * 0 + w_141) = -1 := fun q9 => c_147 (ex_146.trans (by rw [nI_clamp (by omega)]; exact q9))
      have hk0 : FF 0 (setOf gp 0 dl) := by rw [← hw09]; exact (hKm 0 (by decide) w_141 (by omega)).1.mp hn09
      refine lv_iload_n hx hb dX12_give_45 rfl (lv_at hl 1 rfl) ?_
      refine lv_aload_n hx hb dX12_give_46 rfl (lv_at hl 3 rfl) ?_
      refine va_get (D := E.1) (ci := 12) (v := .ref (q 51)) (C := RX12) (T := TX12) (N := 59) hx hb hts inX12 hown hK hP 0 rfl rfl 51 (by decide) fl130 (fun _ h9 => h9) rfl dX12_give_47 ?_
      refine lv_sipush (v := 128) hx hb dX12_give_50 (by decide) ?_
      refine lv_iload hx hb dX12_give_53 (lv_at hl 0 rfl) ?_
      refine lv_imul hx hb dX12_give_55 ?_
      refine lv_topi (fun x_148 ex_148 => ?_)
      obtain rfl : x_148 = 0 := ex_148.trans (by decide +kernel)
      refine lv_aload_n hx hb dX12_give_56 rfl (lv_at hl 3 rfl) ?_
      refine va_get (D := E.1) (ci := 12) (v := .ref (q 55)) (C := RX12) (T := TX12) (N := 59) hx hb hts inX12 hown hK hP 0 rfl rfl 55 (by decide) fl142 (fun _ h9 => h9) rfl dX12_give_57 ?_
      refine lv_iload hx hb dX12_give_60 (lv_at hl 0 rfl) ?_
      refine va_iald hx hb hK hP 2 0 rfl rfl (show vp_in 0 4 from by unfold vp_in; decide) dX12_give_62 ?_
      refine lv_topi (fun x_149 ex_149 => ?_)
      obtain rfl : x_149 = nI w_141 := ex_149.trans ex_139.symm
      refine lv_iadd hx hb dX12_give_63 ?_
      refine lv_topi (fun x_150 ex_150 => ?_)
      obtain rfl : x_150 = nI (0 + w_141) := ex_150.trans (nI_add 0 w_141)
      refine va_iald hx hb hK hP 1 0 rfl rfl hi_145 dX12_give_64 ?_
      refine lv_topi (fun x_151 ex_151 => ?_)
      refine lv_iadd hx hb dX12_give_65 ?_
      refine lv_topi (fun x_152 ex_152 => ?_)
      have hc09 := cost_nx (c := 0) (c2 := 1) (co_0 CC gp dl) (x := x_151) (co2 := x_152) ((by rw [ex_151, nI_clamp (by omega)]; exact (hKm 0 (by decide) w_141 (by omega)).2 hn09 : x_151.toInt = CC 0 w_141).trans (by rw [hw09])) (hCb 0 (by decide) _ hk0) ex_152 rfl (by decide)
      refine lv_istore_n (lv' := [(3, .int x_152), (4, .int 0), (2, .int 0), (0, .ref h0), (1, .int 1)]) hx hb dX12_give_66 rfl hl (by decide) rfl (fun ls hl => ?_)
      refine lv_aload_n hx hb dX12_give_67 rfl (lv_at hl 3 rfl) ?_
      refine va_get (D := E.1) (ci := 12) (v := .ref (q 55)) (C := RX12) (T := TX12) (N := 59) hx hb hts inX12 hown hK hP 0 rfl rfl 55 (by decide) fl142 (fun _ h9 => h9) rfl dX12_give_68 ?_
      refine lv_iload hx hb dX12_give_71 (lv_at hl 1 rfl) ?_
      refine va_iald hx hb hK hP 2 0 rfl rfl (show vp_in 0 4 from by unfold vp_in; decide) dX12_give_73 ?_
      refine lv_topi (fun x_153 ex_153 => ?_)
      obtain rfl : x_153 = nI w_141 := ex_153.trans ex_139.symm
      refine lv_istore (lv' := [(5, .int (nI w_141)), (3, .int x_152), (4, .int 0), (2, .int 0), (0, .ref h0), (1, .int 1)]) hx hb dX12_give_74 hl (by decide) rfl (fun ls hl => ?_)
      have hPl := hP.sub (ws' := [(h0, .inr (12, mG q i_taped i_size i_sort i_what i_at i_end i_worth i_faultKind i_faultPlace i_got i_worked (nI dl) i_isPlanned i_bestDone i_bestCost)), (q 51, .inl (E.2.1 0, 512, .inl a_least)), (q 55, .inl (E.2.1 0, 4, .inl a_sets)), (q 54, .inl (E.2.1 0, 7, .inl a_bestGiven)), (q 53, .inl (E.2.1 0, 7, .inl a_given))]) [0, 1, 2, 3, 4] rfl
      have hDl := hD.sub (ws' := [(h0, .inr (12, mG q i_taped i_size i_sort i_what i_at i_end i_worth i_faultKind i_faultPlace i_got i_worked (nI dl) i_isPlanned i_bestDone i_bestCost)), (q 51, .inl (E.2.1 0, 512, .inl a_least)), (q 55, .inl (E.2.1 0, 4, .inl a_sets)), (q 54, .inl (E.2.1 0, 7, .inl a_bestGiven)), (q 53, .inl (E.2.1 0, 7, .inl a_given))]) [0, 1, 2, 3, 4] (by decide) rfl
      refine lm_bits E h0 q i_taped i_size i_sort i_what i_at i_end i_worth i_faultKind i_faultPlace i_got i_worked i_isPlanned i_bestDone i_bestCost dl (0 + pc7 w_141) x_152 0 ([(q 51, .inl (E.2.1 0, 512, .inl a_least)), (q 55, .inl (E.2.1 0, 4, .inl a_sets)), (q 54, .inl (E.2.1 0, 7, .inl a_bestGiven)), (q 53, .inl (E.2.1 0, 7, .inl a_given))]) hx hb hml hown hts hkn hst hA  (fun n_154 H locs ls hm hP hD hS hl => ?_) (w_141 + 1) w_141 0 _ _ _ (Nat.lt_succ_self _) (by omega) rfl hPl hDl hS (lv_sub hl [4, 3, 1, 2, 0] rfl)
      have hP : va_P E.1 vwCl [(h0, .inr (12, mG q i_taped i_size i_sort i_what i_at i_end i_worth i_faultKind i_faultPlace i_got i_worked (nI dl) i_isPlanned i_bestDone i_bestCost)), (q 51, .inl (E.2.1 0, 512, .inl a_least)), (q 55, .inl (E.2.1 0, 4, .inl a_sets)), (q 54, .inl (E.2.1 0, 7, .inl a_bestGiven)), (q 53, .inl (E.2.1 0, 7, .inl a_given))] H := hP
      have hD : va_D A [(h0, .inr (12, mG q i_taped i_size i_sort i_what i_at i_end i_worth i_faultKind i_faultPlace i_got i_worked (nI dl) i_isPlanned i_bestDone i_bestCost)), (q 51, .inl (E.2.1 0, 512, .inl a_least)), (q 55, .inl (E.2.1 0, 4, .inl a_sets)), (q 54, .inl (E.2.1 0, 7, .inl a_bestGiven)), (q 53, .inl (E.2.1 0, 7, .inl a_given))] := hD
      have hm0 := hm
      refine lv_iinc (v := 1) (lv' := [(4, .int 1), (0, .ref h0), (2, .int (nI n_154)), (3, .int x_152)]) hx hb dX12_give_96 hl (k := 3) rfl (by decide) (by decide) rfl (fun ls hl => ?_)
      refine lv_goto (tgt := 15) hx hb dX12_give_99 (by decide) ?_
      refine lv_iload hx hb dX12_give_15 (lv_at hl 0 rfl) ?_
      refine lv_iconst (v := 4) hx hb dX12_give_17 (by decide) ?_
      refine lv_icmp_ge (tgt := 102) hx hb dX12_give_18 (by decide) (fun c9 => absurd c9 (by decide)) (fun _ => ?_)
      refine lv_aload_n hx hb dX12_give_21 rfl (lv_at hl 1 rfl) ?_
      refine va_get (D := E.1) (ci := 12) (v := .ref (q 51)) (C := RX12) (T := TX12) (N := 59) hx hb hts inX12 hown hK hP 0 rfl rfl 51 (by decide) fl130 (fun _ h9 => h9) rfl dX12_give_22 ?_
      refine lv_sipush (v := 128) hx hb dX12_give_25 (by decide) ?_
      refine lv_iload hx hb dX12_give_28 (lv_at hl 0 rfl) ?_
      refine lv_imul hx hb dX12_give_30 ?_
      refine lv_topi (fun x_155 ex_155 => ?_)
      obtain rfl : x_155 = 128 := ex_155.trans (by decide +kernel)
      refine lv_aload_n hx hb dX12_give_31 rfl (lv_at hl 1 rfl) ?_
      refine va_get (D := E.1) (ci := 12) (v := .ref (q 55)) (C := RX12) (T := TX12) (N := 59) hx hb hts inX12 hown hK hP 0 rfl rfl 55 (by decide) fl142 (fun _ h9 => h9) rfl dX12_give_32 ?_
      refine lv_iload hx hb dX12_give_35 (lv_at hl 0 rfl) ?_
      refine va_iald hx hb hK hP 2 0 rfl rfl (show vp_in 1 4 from by unfold vp_in; decide) dX12_give_37 ?_
      refine lv_topi (fun x_156 ex_156 => ?_)
      have hv_157 : inR x_156 0 127 = true := by rw [ex_156]; exact hI_sets _ (vin_cl (show vp_in 1 4 from by unfold vp_in; decide))
      obtain ⟨w_158, hw_159, ew_160⟩ := inR_nI (n := 127) (by decide) hv_157
      subst ew_160
      have hw19 : w_158 = setOf gp 1 dl := by rw [hn9]; exact nI_inj (by omega) (s128 gp 1 (by decide)) (ex_156.trans (by rw [show Int32.toNatClampNeg 1 = 1 from by decide]; exact hSt 1 (by decide)))
      refine lv_iadd hx hb dX12_give_38 ?_
      refine lv_topi (fun x_161 ex_161 => ?_)
      obtain rfl : x_161 = nI (128 + w_158) := ex_161.trans (nI_add 128 w_158)
      have hi_162 : vp_in (nI (128 + w_158)) 512 := vp_in_nI (by omega) (by decide)
      refine va_iald hx hb hK hP 1 0 rfl rfl hi_162 dX12_give_39 ?_
      refine lv_topi (fun x_163 ex_163 => ?_)
      refine lv_iconst (v := (-1)) hx hb dX12_give_40 (by decide) ?_
      refine lv_icmp_ne (tgt := 45) hx hb dX12_give_41 (by decide) (fun c_164 => ?_) (fun c_164 => ?_)
      · have hn19 : ¬ a_least (128 * 1 + w_158) = -1 := fun q9 => c_164 (ex_163.trans (by rw [nI_clamp (by omega)]; exact q9))
        have hk1 : FF 1 (setOf gp 1 dl) := by rw [← hw19]; exact (hKm 1 (by decide) w_158 (by omega)).1.mp hn19
        refine lv_iload_n hx hb dX12_give_45 rfl (lv_at hl 3 rfl) ?_
        refine lv_aload_n hx hb dX12_give_46 rfl (lv_at hl 1 rfl) ?_
        refine va_get (D := E.1) (ci := 12) (v := .ref (q 51)) (C := RX12) (T := TX12) (N := 59) hx hb hts inX12 hown hK hP 0 rfl rfl 51 (by decide) fl130 (fun _ h9 => h9) rfl dX12_give_47 ?_
        refine lv_sipush (v := 128) hx hb dX12_give_50 (by decide) ?_
        refine lv_iload hx hb dX12_give_53 (lv_at hl 0 rfl) ?_
        refine lv_imul hx hb dX12_give_55 ?_
        refine lv_topi (fun x_165 ex_165 => ?_)
        obtain rfl : x_165 = 128 := ex_165.trans (by decide +kernel)
        refine lv_aload_n hx hb dX12_give_56 rfl (lv_at hl 1 rfl) ?_
        refine va_get (D := E.1) (ci := 12) (v := .ref (q 55)) (C := RX12) (T := TX12) (N := 59) hx hb hts inX12 hown hK hP 0 rfl rfl 55 (by decide) fl142 (fun _ h9 => h9) rfl dX12_give_57 ?_
        refine lv_iload hx hb dX12_give_60 (lv_at hl 0 rfl) ?_
        refine va_iald hx hb hK hP 2 0 rfl rfl (show vp_in 1 4 from by unfold vp_in; decide) dX12_give_62 ?_
        refine lv_topi (fun x_166 ex_166 => ?_)
        obtain rfl : x_166 = nI w_158 := ex_166.trans ex_156.symm
        refine lv_iadd hx hb dX12_give_63 ?_
        refine lv_topi (fun x_167 ex_167 => ?_)
        obtain rfl : x_167 = nI (128 + w_158) := ex_167.trans (nI_add 128 w_158)
        refine va_iald hx hb hK hP 1 0 rfl rfl hi_162 dX12_give_64 ?_
        refine lv_topi (fun x_168 ex_168 => ?_)
        refine lv_iadd hx hb dX12_give_65 ?_
        refine lv_topi (fun x_169 ex_169 => ?_)
        have hc19 := cost_nx (c := 1) (c2 := 2) hc09 (x := x_168) (co2 := x_169) ((by rw [ex_168, nI_clamp (by omega)]; exact (hKm 1 (by decide) w_158 (by omega)).2 hn19 : x_168.toInt = CC 1 w_158).trans (by rw [hw19])) (hCb 1 (by decide) _ hk1) ex_169 rfl (by decide)
        refine lv_istore_n (lv' := [(3, .int x_169), (4, .int 1), (0, .ref h0), (2, .int (nI n_154))]) hx hb dX12_give_66 rfl hl (by decide) rfl (fun ls hl => ?_)
        refine lv_aload_n hx hb dX12_give_67 rfl (lv_at hl 2 rfl) ?_
        refine va_get (D := E.1) (ci := 12) (v := .ref (q 55)) (C := RX12) (T := TX12) (N := 59) hx hb hts inX12 hown hK hP 0 rfl rfl 55 (by decide) fl142 (fun _ h9 => h9) rfl dX12_give_68 ?_
        refine lv_iload hx hb dX12_give_71 (lv_at hl 1 rfl) ?_
        refine va_iald hx hb hK hP 2 0 rfl rfl (show vp_in 1 4 from by unfold vp_in; decide) dX12_give_73 ?_
        refine lv_topi (fun x_170 ex_170 => ?_)
        obtain rfl : x_170 = nI w_158 := ex_170.trans ex_156.symm
        refine lv_istore (lv' := [(5, .int (nI w_158)), (3, .int x_169), (4, .int 1), (0, .ref h0), (2, .int (nI n_154))]) hx hb dX12_give_74 hl (by decide) rfl (fun ls hl => ?_)
        have hPl := hP.sub (ws' := [(h0, .inr (12, mG q i_taped i_size i_sort i_what i_at i_end i_worth i_faultKind i_faultPlace i_got i_worked (nI dl) i_isPlanned i_bestDone i_bestCost)), (q 51, .inl (E.2.1 0, 512, .inl a_least)), (q 55, .inl (E.2.1 0, 4, .inl a_sets)), (q 54, .inl (E.2.1 0, 7, .inl a_bestGiven)), (q 53, .inl (E.2.1 0, 7, .inl a_given))]) [0, 1, 2, 3, 4] rfl
        have hDl := hD.sub (ws' := [(h0, .inr (12, mG q i_taped i_size i_sort i_what i_at i_end i_worth i_faultKind i_faultPlace i_got i_worked (nI dl) i_isPlanned i_bestDone i_bestCost)), (q 51, .inl (E.2.1 0, 512, .inl a_least)), (q 55, .inl (E.2.1 0, 4, .inl a_sets)), (q 54, .inl (E.2.1 0, 7, .inl a_bestGiven)), (q 53, .inl (E.2.1 0, 7, .inl a_given))]) [0, 1, 2, 3, 4] (by decide) rfl
        refine lm_bits E h0 q i_taped i_size i_sort i_what i_at i_end i_worth i_faultKind i_faultPlace i_got i_worked i_isPlanned i_bestDone i_bestCost dl (n_154 + pc7 w_158) x_169 1 ([(q 51, .inl (E.2.1 0, 512, .inl a_least)), (q 55, .inl (E.2.1 0, 4, .inl a_sets)), (q 54, .inl (E.2.1 0, 7, .inl a_bestGiven)), (q 53, .inl (E.2.1 0, 7, .inl a_given))]) hx hb hml hown hts hkn hst hA  (fun n_171 H locs ls hm hP hD hS hl => ?_) (w_158 + 1) w_158 n_154 _ _ _ (Nat.lt_succ_self _) (by omega) rfl hPl hDl hS (lv_sub hl [3, 4, 1, 2, 0] rfl)
        have hP : va_P E.1 vwCl [(h0, .inr (12, mG q i_taped i_size i_sort i_what i_at i_end i_worth i_faultKind i_faultPlace i_got i_worked (nI dl) i_isPlanned i_bestDone i_bestCost)), (q 51, .inl (E.2.1 0, 512, .inl a_least)), (q 55, .inl (E.2.1 0, 4, .inl a_sets)), (q 54, .inl (E.2.1 0, 7, .inl a_bestGiven)), (q 53, .inl (E.2.1 0, 7, .inl a_given))] H := hP
        have hD : va_D A [(h0, .inr (12, mG q i_taped i_size i_sort i_what i_at i_end i_worth i_faultKind i_faultPlace i_got i_worked (nI dl) i_isPlanned i_bestDone i_bestCost)), (q 51, .inl (E.2.1 0, 512, .inl a_least)), (q 55, .inl (E.2.1 0, 4, .inl a_sets)), (q 54, .inl (E.2.1 0, 7, .inl a_bestGiven)), (q 53, .inl (E.2.1 0, 7, .inl a_given))] := hD
        have hm1 := hm
        refine lv_iinc (v := 2) (lv' := [(4, .int 2), (0, .ref h0), (2, .int (nI n_171)), (3, .int x_169)]) hx hb dX12_give_96 hl (k := 3) rfl (by decide) (by decide) rfl (fun ls hl => ?_)
        refine lv_goto (tgt := 15) hx hb dX12_give_99 (by decide) ?_
        refine lv_iload hx hb dX12_give_15 (lv_at hl 0 rfl) ?_
        refine lv_iconst (v := 4) hx hb dX12_give_17 (by decide) ?_
        refine lv_icmp_ge (tgt := 102) hx hb dX12_give_18 (by decide) (fun c9 => absurd c9 (by decide)) (fun _ => ?_)
        refine lv_aload_n hx hb dX12_give_21 rfl (lv_at hl 1 rfl) ?_
        refine va_get (D := E.1) (ci := 12) (v := .ref (q 51)) (C := RX12) (T := TX12) (N := 59) hx hb hts inX12 hown hK hP 0 rfl rfl 51 (by decide) fl130 (fun _ h9 => h9) rfl dX12_give_22 ?_
        refine lv_sipush (v := 128) hx hb dX12_give_25 (by decide) ?_
        refine lv_iload hx hb dX12_give_28 (lv_at hl 0 rfl) ?_
        refine lv_imul hx hb dX12_give_30 ?_
        refine lv_topi (fun x_172 ex_172 => ?_)
        obtain rfl : x_172 = 256 := ex_172.trans (by decide +kernel)
        refine lv_aload_n hx hb dX12_give_31 rfl (lv_at hl 1 rfl) ?_
        refine va_get (D := E.1) (ci := 12) (v := .ref (q 55)) (C := RX12) (T := TX12) (N := 59) hx hb hts inX12 hown hK hP 0 rfl rfl 55 (by decide) fl142 (fun _ h9 => h9) rfl dX12_give_32 ?_
        refine lv_iload hx hb dX12_give_35 (lv_at hl 0 rfl) ?_
        refine va_iald hx hb hK hP 2 0 rfl rfl (show vp_in 2 4 from by unfold vp_in; decide) dX12_give_37 ?_
        refine lv_topi (fun x_173 ex_173 => ?_)
        have hv_174 : inR x_173 0 127 = true := by rw [ex_173]; exact hI_sets _ (vin_cl (show vp_in 2 4 from by unfold vp_in; decide))
        obtain ⟨w_175, hw_176, ew_177⟩ := inR_nI (n := 127) (by decide) hv_174
        subst ew_177
        have hw29 : w_175 = setOf gp 2 dl := by rw [hn9]; exact nI_inj (by omega) (s128 gp 2 (by decide)) (ex_173.trans (by rw [show Int32.toNatClampNeg 2 = 2 from by decide]; exact hSt 2 (by decide)))
        refine lv_iadd hx hb dX12_give_38 ?_
        refine lv_topi (fun x_178 ex_178 => ?_)
        obtain rfl : x_178 = nI (256 + w_175) := ex_178.trans (nI_add 256 w_175)
        have hi_179 : vp_in (nI (256 + w_175)) 512 := vp_in_nI (by omega) (by decide)
        refine va_iald hx hb hK hP 1 0 rfl rfl hi_179 dX12_give_39 ?_
        refine lv_topi (fun x_180 ex_180 => ?_)
        refine lv_iconst (v := (-1)) hx hb dX12_give_40 (by decide) ?_
        refine lv_icmp_ne (tgt := 45) hx hb dX12_give_41 (by decide) (fun c_181 => ?_) (fun c_181 => ?_)
        · have hn29 : ¬ a_least (128 * 2 + w_175) = -1 := fun q9 => c_181 (ex_180.trans (by rw [nI_clamp (by omega)]; exact q9))
          have hk2 : FF 2 (setOf gp 2 dl) := by rw [← hw29]; exact (hKm 2 (by decide) w_175 (by omega)).1.mp hn29
          refine lv_iload_n hx hb dX12_give_45 rfl (lv_at hl 3 rfl) ?_
          refine lv_aload_n hx hb dX12_give_46 rfl (lv_at hl 1 rfl) ?_
          refine va_get (D := E.1) (ci := 12) (v := .ref (q 51)) (C := RX12) (T := TX12) (N := 59) hx hb hts inX12 hown hK hP 0 rfl rfl 51 (by decide) fl130 (fun _ h9 => h9) rfl dX12_give_47 ?_
          refine lv_sipush (v := 128) hx hb dX12_give_50 (by decide) ?_
          refine lv_iload hx hb dX12_give_53 (lv_at hl 0 rfl) ?_
          refine lv_imul hx hb dX12_give_55 ?_
          refine lv_topi (fun x_182 ex_182 => ?_)
          obtain rfl : x_182 = 256 := ex_182.trans (by decide +kernel)
          refine lv_aload_n hx hb dX12_give_56 rfl (lv_at hl 1 rfl) ?_
          refine va_get (D := E.1) (ci := 12) (v := .ref (q 55)) (C := RX12) (T := TX12) (N := 59) hx hb hts inX12 hown hK hP 0 rfl rfl 55 (by decide) fl142 (fun _ h9 => h9) rfl dX12_give_57 ?_
          refine lv_iload hx hb dX12_give_60 (lv_at hl 0 rfl) ?_
          refine va_iald hx hb hK hP 2 0 rfl rfl (show vp_in 2 4 from by unfold vp_in; decide) dX12_give_62 ?_
          refine lv_topi (fun x_183 ex_183 => ?_)
          obtain rfl : x_183 = nI w_175 := ex_183.trans ex_173.symm
          refine lv_iadd hx hb dX12_give_63 ?_
          refine lv_topi (fun x_184 ex_184 => ?_)
          obtain rfl : x_184 = nI (256 + w_175) := ex_184.trans (nI_add 256 w_175)
          refine va_iald hx hb hK hP 1 0 rfl rfl hi_179 dX12_give_64 ?_
          refine lv_topi (fun x_185 ex_185 => ?_)
          refine lv_iadd hx hb dX12_give_65 ?_
          refine lv_topi (fun x_186 ex_186 => ?_)
          have hc29 := cost_nx (c := 2) (c2 := 3) hc19 (x := x_185) (co2 := x_186) ((by rw [ex_185, nI_clamp (by omega)]; exact (hKm 2 (by decide) w_175 (by omega)).2 hn29 : x_185.toInt = CC 2 w_175).trans (by rw [hw29])) (hCb 2 (by decide) _ hk2) ex_186 rfl (by decide)
          refine lv_istore_n (lv' := [(3, .int x_186), (4, .int 2), (0, .ref h0), (2, .int (nI n_171))]) hx hb dX12_give_66 rfl hl (by decide) rfl (fun ls hl => ?_)
          refine lv_aload_n hx hb dX12_give_67 rfl (lv_at hl 2 rfl) ?_
          refine va_get (D := E.1) (ci := 12) (v := .ref (q 55)) (C := RX12) (T := TX12) (N := 59) hx hb hts inX12 hown hK hP 0 rfl rfl 55 (by decide) fl142 (fun _ h9 => h9) rfl dX12_give_68 ?_
          refine lv_iload hx hb dX12_give_71 (lv_at hl 1 rfl) ?_
          refine va_iald hx hb hK hP 2 0 rfl rfl (show vp_in 2 4 from by unfold vp_in; decide) dX12_give_73 ?_
          refine lv_topi (fun x_187 ex_187 => ?_)
          obtain rfl : x_187 = nI w_175 := ex_187.trans ex_173.symm
          refine lv_istore (lv' := [(5, .int (nI w_175)), (3, .int x_186), (4, .int 2), (0, .ref h0), (2, .int (nI n_171))]) hx hb dX12_give_74 hl (by decide) rfl (fun ls hl => ?_)
          have hPl := hP.sub (ws' := [(h0, .inr (12, mG q i_taped i_size i_sort i_what i_at i_end i_worth i_faultKind i_faultPlace i_got i_worked (nI dl) i_isPlanned i_bestDone i_bestCost)), (q 51, .inl (E.2.1 0, 512, .inl a_least)), (q 55, .inl (E.2.1 0, 4, .inl a_sets)), (q 54, .inl (E.2.1 0, 7, .inl a_bestGiven)), (q 53, .inl (E.2.1 0, 7, .inl a_given))]) [0, 1, 2, 3, 4] rfl
          have hDl := hD.sub (ws' := [(h0, .inr (12, mG q i_taped i_size i_sort i_what i_at i_end i_worth i_faultKind i_faultPlace i_got i_worked (nI dl) i_isPlanned i_bestDone i_bestCost)), (q 51, .inl (E.2.1 0, 512, .inl a_least)), (q 55, .inl (E.2.1 0, 4, .inl a_sets)), (q 54, .inl (E.2.1 0, 7, .inl a_bestGiven)), (q 53, .inl (E.2.1 0, 7, .inl a_given))]) [0, 1, 2, 3, 4] (by decide) rfl
          refine lm_bits E h0 q i_taped i_size i_sort i_what i_at i_end i_worth i_faultKind i_faultPlace i_got i_worked i_isPlanned i_bestDone i_bestCost dl (n_171 + pc7 w_175) x_186 2 ([(q 51, .inl (E.2.1 0, 512, .inl a_least)), (q 55, .inl (E.2.1 0, 4, .inl a_sets)), (q 54, .inl (E.2.1 0, 7, .inl a_bestGiven)), (q 53, .inl (E.2.1 0, 7, .inl a_given))]) hx hb hml hown hts hkn hst hA  (fun n_188 H locs ls hm hP hD hS hl => ?_) (w_175 + 1) w_175 n_171 _ _ _ (Nat.lt_succ_self _) (by omega) rfl hPl hDl hS (lv_sub hl [3, 4, 1, 2, 0] rfl)
          have hP : va_P E.1 vwCl [(h0, .inr (12, mG q i_taped i_size i_sort i_what i_at i_end i_worth i_faultKind i_faultPlace i_got i_worked (nI dl) i_isPlanned i_bestDone i_bestCost)), (q 51, .inl (E.2.1 0, 512, .inl a_least)), (q 55, .inl (E.2.1 0, 4, .inl a_sets)), (q 54, .inl (E.2.1 0, 7, .inl a_bestGiven)), (q 53, .inl (E.2.1 0, 7, .inl a_given))] H := hP
          have hD : va_D A [(h0, .inr (12, mG q i_taped i_size i_sort i_what i_at i_end i_worth i_faultKind i_faultPlace i_got i_worked (nI dl) i_isPlanned i_bestDone i_bestCost)), (q 51, .inl (E.2.1 0, 512, .inl a_least)), (q 55, .inl (E.2.1 0, 4, .inl a_sets)), (q 54, .inl (E.2.1 0, 7, .inl a_bestGiven)), (q 53, .inl (E.2.1 0, 7, .inl a_given))] := hD
          have hm2 := hm
          refine lv_iinc (v := 3) (lv' := [(4, .int 3), (0, .ref h0), (2, .int (nI n_188)), (3, .int x_186)]) hx hb dX12_give_96 hl (k := 3) rfl (by decide) (by decide) rfl (fun ls hl => ?_)
          refine lv_goto (tgt := 15) hx hb dX12_give_99 (by decide) ?_
          refine lv_iload hx hb dX12_give_15 (lv_at hl 0 rfl) ?_
          refine lv_iconst (v := 4) hx hb dX12_give_17 (by decide) ?_
          refine lv_icmp_ge (tgt := 102) hx hb dX12_give_18 (by decide) (fun c9 => absurd c9 (by decide)) (fun _ => ?_)
          refine lv_aload_n hx hb dX12_give_21 rfl (lv_at hl 1 rfl) ?_
          refine va_get (D := E.1) (ci := 12) (v := .ref (q 51)) (C := RX12) (T := TX12) (N := 59) hx hb hts inX12 hown hK hP 0 rfl rfl 51 (by decide) fl130 (fun _ h9 => h9) rfl dX12_give_22 ?_
          refine lv_sipush (v := 128) hx hb dX12_give_25 (by decide) ?_
          refine lv_iload hx hb dX12_give_28 (lv_at hl 0 rfl) ?_
          refine lv_imul hx hb dX12_give_30 ?_
          refine lv_topi (fun x_189 ex_189 => ?_)
          obtain rfl : x_189 = 384 := ex_189.trans (by decide +kernel)
          refine lv_aload_n hx hb dX12_give_31 rfl (lv_at hl 1 rfl) ?_
          refine va_get (D := E.1) (ci := 12) (v := .ref (q 55)) (C := RX12) (T := TX12) (N := 59) hx hb hts inX12 hown hK hP 0 rfl rfl 55 (by decide) fl142 (fun _ h9 => h9) rfl dX12_give_32 ?_
          refine lv_iload hx hb dX12_give_35 (lv_at hl 0 rfl) ?_
          refine va_iald hx hb hK hP 2 0 rfl rfl (show vp_in 3 4 from by unfold vp_in; decide) dX12_give_37 ?_
          refine lv_topi (fun x_190 ex_190 => ?_)
          have hv_191 : inR x_190 0 127 = true := by rw [ex_190]; exact hI_sets _ (vin_cl (show vp_in 3 4 from by unfold vp_in; decide))
          obtain ⟨w_192, hw_193, ew_194⟩ := inR_nI (n := 127) (by decide) hv_191
          subst ew_194
          have hw39 : w_192 = setOf gp 3 dl := by rw [hn9]; exact nI_inj (by omega) (s128 gp 3 (by decide)) (ex_190.trans (by rw [show Int32.toNatClampNeg 3 = 3 from by decide]; exact hSt 3 (by decide)))
          refine lv_iadd hx hb dX12_give_38 ?_
          refine lv_topi (fun x_195 ex_195 => ?_)
          obtain rfl : x_195 = nI (384 + w_192) := ex_195.trans (nI_add 384 w_192)
          have hi_196 : vp_in (nI (384 + w_192)) 512 := vp_in_nI (by omega) (by decide)
          refine va_iald hx hb hK hP 1 0 rfl rfl hi_196 dX12_give_39 ?_
          refine lv_topi (fun x_197 ex_197 => ?_)
          refine lv_iconst (v := (-1)) hx hb dX12_give_40 (by decide) ?_
          refine lv_icmp_ne (tgt := 45) hx hb dX12_give_41 (by decide) (fun c_198 => ?_) (fun c_198 => ?_)
          · have hn39 : ¬ a_least (128 * 3 + w_192) = -1 := fun q9 => c_198 (ex_197.trans (by rw [nI_clamp (by omega)]; exact q9))
            have hk3 : FF 3 (setOf gp 3 dl) := by rw [← hw39]; exact (hKm 3 (by decide) w_192 (by omega)).1.mp hn39
            refine lv_iload_n hx hb dX12_give_45 rfl (lv_at hl 3 rfl) ?_
            refine lv_aload_n hx hb dX12_give_46 rfl (lv_at hl 1 rfl) ?_
            refine va_get (D := E.1) (ci := 12) (v := .ref (q 51)) (C := RX12) (T := TX12) (N := 59) hx hb hts inX12 hown hK hP 0 rfl rfl 51 (by decide) fl130 (fun _ h9 => h9) rfl dX12_give_47 ?_
            refine lv_sipush (v := 128) hx hb dX12_give_50 (by decide) ?_
            refine lv_iload hx hb dX12_give_53 (lv_at hl 0 rfl) ?_
            refine lv_imul hx hb dX12_give_55 ?_
            refine lv_topi (fun x_199 ex_199 => ?_)
            obtain rfl : x_199 = 384 := ex_199.trans (by decide +kernel)
            refine lv_aload_n hx hb dX12_give_56 rfl (lv_at hl 1 rfl) ?_
            refine va_get (D := E.1) (ci := 12) (v := .ref (q 55)) (C := RX12) (T := TX12) (N := 59) hx hb hts inX12 hown hK hP 0 rfl rfl 55 (by decide) fl142 (fun _ h9 => h9) rfl dX12_give_57 ?_
            refine lv_iload hx hb dX12_give_60 (lv_at hl 0 rfl) ?_
            refine va_iald hx hb hK hP 2 0 rfl rfl (show vp_in 3 4 from by unfold vp_in; decide) dX12_give_62 ?_
            refine lv_topi (fun x_200 ex_200 => ?_)
            obtain rfl : x_200 = nI w_192 := ex_200.trans ex_190.symm
            refine lv_iadd hx hb dX12_give_63 ?_
            refine lv_topi (fun x_201 ex_201 => ?_)
            obtain rfl : x_201 = nI (384 + w_192) := ex_201.trans (nI_add 384 w_192)
            refine va_iald hx hb hK hP 1 0 rfl rfl hi_196 dX12_give_64 ?_
            refine lv_topi (fun x_202 ex_202 => ?_)
            refine lv_iadd hx hb dX12_give_65 ?_
            refine lv_topi (fun x_203 ex_203 => ?_)
            have hc39 := cost_nx (c := 3) (c2 := 4) hc29 (x := x_202) (co2 := x_203) ((by rw [ex_202, nI_clamp (by omega)]; exact (hKm 3 (by decide) w_192 (by omega)).2 hn39 : x_202.toInt = CC 3 w_192).trans (by rw [hw39])) (hCb 3 (by decide) _ hk3) ex_203 rfl (by decide)
            refine lv_istore_n (lv' := [(3, .int x_203), (4, .int 3), (0, .ref h0), (2, .int (nI n_188))]) hx hb dX12_give_66 rfl hl (by decide) rfl (fun ls hl => ?_)
            refine lv_aload_n hx hb dX12_give_67 rfl (lv_at hl 2 rfl) ?_
            refine va_get (D := E.1) (ci := 12) (v := .ref (q 55)) (C := RX12) (T := TX12) (N := 59) hx hb hts inX12 hown hK hP 0 rfl rfl 55 (by decide) fl142 (fun _ h9 => h9) rfl dX12_give_68 ?_
            refine lv_iload hx hb dX12_give_71 (lv_at hl 1 rfl) ?_
            refine va_iald hx hb hK hP 2 0 rfl rfl (show vp_in 3 4 from by unfold vp_in; decide) dX12_give_73 ?_
            refine lv_topi (fun x_204 ex_204 => ?_)
            obtain rfl : x_204 = nI w_192 := ex_204.trans ex_190.symm
            refine lv_istore (lv' := [(5, .int (nI w_192)), (3, .int x_203), (4, .int 3), (0, .ref h0), (2, .int (nI n_188))]) hx hb dX12_give_74 hl (by decide) rfl (fun ls hl => ?_)
            have hPl := hP.sub (ws' := [(h0, .inr (12, mG q i_taped i_size i_sort i_what i_at i_end i_worth i_faultKind i_faultPlace i_got i_worked (nI dl) i_isPlanned i_bestDone i_bestCost)), (q 51, .inl (E.2.1 0, 512, .inl a_least)), (q 55, .inl (E.2.1 0, 4, .inl a_sets)), (q 54, .inl (E.2.1 0, 7, .inl a_bestGiven)), (q 53, .inl (E.2.1 0, 7, .inl a_given))]) [0, 1, 2, 3, 4] rfl
            have hDl := hD.sub (ws' := [(h0, .inr (12, mG q i_taped i_size i_sort i_what i_at i_end i_worth i_faultKind i_faultPlace i_got i_worked (nI dl) i_isPlanned i_bestDone i_bestCost)), (q 51, .inl (E.2.1 0, 512, .inl a_least)), (q 55, .inl (E.2.1 0, 4, .inl a_sets)), (q 54, .inl (E.2.1 0, 7, .inl a_bestGiven)), (q 53, .inl (E.2.1 0, 7, .inl a_given))]) [0, 1, 2, 3, 4] (by decide) rfl
            refine lm_bits E h0 q i_taped i_size i_sort i_what i_at i_end i_worth i_faultKind i_faultPlace i_got i_worked i_isPlanned i_bestDone i_bestCost dl (n_188 + pc7 w_192) x_203 3 ([(q 51, .inl (E.2.1 0, 512, .inl a_least)), (q 55, .inl (E.2.1 0, 4, .inl a_sets)), (q 54, .inl (E.2.1 0, 7, .inl a_bestGiven)), (q 53, .inl (E.2.1 0, 7, .inl a_given))]) hx hb hml hown hts hkn hst hA  (fun n_205 H locs ls hm hP hD hS hl => ?_) (w_192 + 1) w_192 n_188 _ _ _ (Nat.lt_succ_self _) (by omega) rfl hPl hDl hS (lv_sub hl [3, 4, 1, 2, 0] rfl)
            have hP : va_P E.1 vwCl [(h0, .inr (12, mG q i_taped i_size i_sort i_what i_at i_end i_worth i_faultKind i_faultPlace i_got i_worked (nI dl) i_isPlanned i_bestDone i_bestCost)), (q 51, .inl (E.2.1 0, 512, .inl a_least)), (q 55, .inl (E.2.1 0, 4, .inl a_sets)), (q 54, .inl (E.2.1 0, 7, .inl a_bestGiven)), (q 53, .inl (E.2.1 0, 7, .inl a_given))] H := hP
            have hD : va_D A [(h0, .inr (12, mG q i_taped i_size i_sort i_what i_at i_end i_worth i_faultKind i_faultPlace i_got i_worked (nI dl) i_isPlanned i_bestDone i_bestCost)), (q 51, .inl (E.2.1 0, 512, .inl a_least)), (q 55, .inl (E.2.1 0, 4, .inl a_sets)), (q 54, .inl (E.2.1 0, 7, .inl a_bestGiven)), (q 53, .inl (E.2.1 0, 7, .inl a_given))] := hD
            have hm3 := hm
            refine lv_iinc (v := 4) (lv' := [(4, .int 4), (0, .ref h0), (2, .int (nI n_205)), (3, .int x_203)]) hx hb dX12_give_96 hl (k := 3) rfl (by decide) (by decide) rfl (fun ls hl => ?_)
            refine lv_goto (tgt := 15) hx hb dX12_give_99 (by decide) ?_
            refine lv_iload hx hb dX12_give_15 (lv_at hl 0 rfl) ?_
            refine lv_iconst (v := 4) hx hb dX12_give_17 (by decide) ?_
            refine lv_icmp_ge (tgt := 102) hx hb dX12_give_18 (by decide) (fun _ => ?_) (fun c9 => absurd c9 (by decide))
            have p70 := pc7_le w_141 (by omega)
            have p71 := pc7_le w_158 (by omega)
            have p72 := pc7_le w_175 (by omega)
            have p73 := pc7_le w_192 (by omega)
            have hcn9 : n_205 = cnt gp dl := by rw [← pc_sum gp dl hdl, ← hw09, ← hw19, ← hw29, ← hw39]; omega
            refine lv_iload_n hx hb dX12_give_102 rfl (lv_at hl 2 rfl) ?_
            refine lv_aload_n hx hb dX12_give_103 rfl (lv_at hl 1 rfl) ?_
            refine va_get (D := E.1) (ci := 12) (v := .int i_bestDone) (C := RX12) (T := TX12) (N := 59) hx hb hts inX12 hown hK hP 0 rfl rfl 57 (by decide) fl300 (fun _ h9 => h9) rfl dX12_give_104 ?_
            refine lv_icmp_lt (tgt := 126) hx hb dX12_give_107 (by decide) (fun c_206 => ?_) (fun c_206 => ?_)
            · have hP9 := hP.sub (ws' := [(h0, .inr (12, mG q i_taped i_size i_sort i_what i_at i_end i_worth i_faultKind i_faultPlace i_got i_worked (nI dl) i_isPlanned i_bestDone i_bestCost)), (q 51, .inl (E.2.1 0, 512, .inl a_least)), (q 55, .inl (E.2.1 0, 4, .inl a_sets)), (q 54, .inl (E.2.1 0, 7, .inl a_bestGiven)), (q 53, .inl (E.2.1 0, 7, .inl a_given))]) [0, 1, 2, 3, 4] rfl
              have hD9 := hD.sub (ws' := [(h0, .inr (12, mG q i_taped i_size i_sort i_what i_at i_end i_worth i_faultKind i_faultPlace i_got i_worked (nI dl) i_isPlanned i_bestDone i_bestCost)), (q 51, .inl (E.2.1 0, 512, .inl a_least)), (q 55, .inl (E.2.1 0, 4, .inl a_sets)), (q 54, .inl (E.2.1 0, 7, .inl a_bestGiven)), (q 53, .inl (E.2.1 0, 7, .inl a_given))]) [0, 1, 2, 3, 4] (by decide) rfl
              exact W.vret hx hb hr (fun t ht hW => ⟨⟨(i_bestDone, i_bestCost, a_sets, a_bestGiven, a_given), rfl, (BG_post hn9 (BG_old hdl hp9 (Or.inl (by rw [← hcn9]; exact gx_lt (by omega) c_206)) hB9)), hI_sets, (fun i hi => rfl), (fun k hk => rfl), by rw [ht]; exact hP9, hD9⟩, hS.F ht⟩) hS.2.2 dX12_give_126
            · refine lv_iload_n hx hb dX12_give_110 rfl (lv_at hl 2 rfl) ?_
              refine lv_aload_n hx hb dX12_give_111 rfl (lv_at hl 1 rfl) ?_
              refine va_get (D := E.1) (ci := 12) (v := .int i_bestDone) (C := RX12) (T := TX12) (N := 59) hx hb hts inX12 hown hK hP 0 rfl rfl 57 (by decide) fl300 (fun _ h9 => h9) rfl dX12_give_112 ?_
              refine lv_icmp_ne (tgt := 127) hx hb dX12_give_115 (by decide) (fun c_207 => ?_) (fun c_207 => ?_)
              · refine lv_aload_n hx hb dX12_give_127 rfl (lv_at hl 1 rfl) ?_
                refine lv_iload_n hx hb dX12_give_128 rfl (lv_at hl 2 rfl) ?_
                refine va_put (D := E.1) (ci := 12) (v := .int (nI n_205)) (ty := .int) (C := RX12) (T := TX12) (N := 59) hx hb hts inX12 tyX12 tyX12_ok nmX12 hown hK hP hD hS 0 rfl rfl 57 (by decide) fl300 (fun _ h9 => h9) rfl (by decide +kernel) rfl rfl (Nat.le_of_ble_eq_true rfl) dX12_give_129 (fun H locs hP hD hS => ?_)
                have hP : va_P E.1 vwCl [(h0, .inr (12, mG q i_taped i_size i_sort i_what i_at i_end i_worth i_faultKind i_faultPlace i_got i_worked (nI dl) i_isPlanned (nI n_205) i_bestCost)), (q 51, .inl (E.2.1 0, 512, .inl a_least)), (q 55, .inl (E.2.1 0, 4, .inl a_sets)), (q 54, .inl (E.2.1 0, 7, .inl a_bestGiven)), (q 53, .inl (E.2.1 0, 7, .inl a_given))] H := hP
                have hD : va_D A [(h0, .inr (12, mG q i_taped i_size i_sort i_what i_at i_end i_worth i_faultKind i_faultPlace i_got i_worked (nI dl) i_isPlanned (nI n_205) i_bestCost)), (q 51, .inl (E.2.1 0, 512, .inl a_least)), (q 55, .inl (E.2.1 0, 4, .inl a_sets)), (q 54, .inl (E.2.1 0, 7, .inl a_bestGiven)), (q 53, .inl (E.2.1 0, 7, .inl a_given))] := hD
                refine lv_aload_n hx hb dX12_give_132 rfl (lv_at hl 1 rfl) ?_
                refine lv_iload_n hx hb dX12_give_133 rfl (lv_at hl 3 rfl) ?_
                refine va_put (D := E.1) (ci := 12) (v := .int x_203) (ty := .int) (C := RX12) (T := TX12) (N := 59) hx hb hts inX12 tyX12 tyX12_ok nmX12 hown hK hP hD hS 0 rfl rfl 58 (by decide) fl303 (fun _ h9 => h9) rfl (by decide +kernel) rfl rfl (Nat.le_of_ble_eq_true rfl) dX12_give_134 (fun H locs hP hD hS => ?_)
                have hP : va_P E.1 vwCl [(h0, .inr (12, mG q i_taped i_size i_sort i_what i_at i_end i_worth i_faultKind i_faultPlace i_got i_worked (nI dl) i_isPlanned (nI n_205) x_203)), (q 51, .inl (E.2.1 0, 512, .inl a_least)), (q 55, .inl (E.2.1 0, 4, .inl a_sets)), (q 54, .inl (E.2.1 0, 7, .inl a_bestGiven)), (q 53, .inl (E.2.1 0, 7, .inl a_given))] H := hP
                have hD : va_D A [(h0, .inr (12, mG q i_taped i_size i_sort i_what i_at i_end i_worth i_faultKind i_faultPlace i_got i_worked (nI dl) i_isPlanned (nI n_205) x_203)), (q 51, .inl (E.2.1 0, 512, .inl a_least)), (q 55, .inl (E.2.1 0, 4, .inl a_sets)), (q 54, .inl (E.2.1 0, 7, .inl a_bestGiven)), (q 53, .inl (E.2.1 0, 7, .inl a_given))] := hD
                refine lv_iconst (v := 0) hx hb dX12_give_137 (by decide) ?_
                refine lv_istore (lv' := [(4, .int 0), (0, .ref h0), (2, .int (nI n_205)), (3, .int x_203)]) hx hb dX12_give_138 hl (by decide) rfl (fun ls hl => ?_)
                have hPl := hP.sub (ws' := [(h0, .inr (12, mG q i_taped i_size i_sort i_what i_at i_end i_worth i_faultKind i_faultPlace i_got i_worked (nI dl) i_isPlanned (nI n_205) x_203)), (q 53, .inl (E.2.1 0, 7, .inl a_given)), (q 54, .inl (E.2.1 0, 7, .inl a_bestGiven)), (q 51, .inl (E.2.1 0, 512, .inl a_least)), (q 55, .inl (E.2.1 0, 4, .inl a_sets))]) [0, 4, 3, 1, 2] rfl
                have hDl := hD.sub (ws' := [(h0, .inr (12, mG q i_taped i_size i_sort i_what i_at i_end i_worth i_faultKind i_faultPlace i_got i_worked (nI dl) i_isPlanned (nI n_205) x_203)), (q 53, .inl (E.2.1 0, 7, .inl a_given)), (q 54, .inl (E.2.1 0, 7, .inl a_bestGiven)), (q 51, .inl (E.2.1 0, 512, .inl a_least)), (q 55, .inl (E.2.1 0, 4, .inl a_sets))]) [0, 4, 3, 1, 2] (by decide) rfl
                refine lm_copy E h0 q i_taped i_size i_sort i_what i_at i_end i_worth i_faultKind i_faultPlace i_got i_worked i_isPlanned (nI n_205) x_203 dl a_given ([(q 51, .inl (E.2.1 0, 512, .inl a_least)), (q 55, .inl (E.2.1 0, 4, .inl a_sets))]) hx hb hml hown hts hkn hst hA (by omega) (fun n_208 H locs ls hcp hP hD hS hl => ?_) 9 0 a_bestGiven _ _ _ (by omega) (by omega) (fun j hj => absurd hj (Nat.not_lt_zero j)) hPl hDl hS (lv_sub hl [1, 0] rfl)
                have hP : va_P E.1 vwCl [(h0, .inr (12, mG q i_taped i_size i_sort i_what i_at i_end i_worth i_faultKind i_faultPlace i_got i_worked (nI dl) i_isPlanned (nI n_205) x_203)), (q 53, .inl (E.2.1 0, 7, .inl a_given)), (q 54, .inl (E.2.1 0, 7, .inl n_208)), (q 51, .inl (E.2.1 0, 512, .inl a_least)), (q 55, .inl (E.2.1 0, 4, .inl a_sets))] H := hP
                have hD : va_D A [(h0, .inr (12, mG q i_taped i_size i_sort i_what i_at i_end i_worth i_faultKind i_faultPlace i_got i_worked (nI dl) i_isPlanned (nI n_205) x_203)), (q 53, .inl (E.2.1 0, 7, .inl a_given)), (q 54, .inl (E.2.1 0, 7, .inl n_208)), (q 51, .inl (E.2.1 0, 512, .inl a_least)), (q 55, .inl (E.2.1 0, 4, .inl a_sets))] := hD
                have hP9 := hP.sub (ws' := [(h0, .inr (12, mG q i_taped i_size i_sort i_what i_at i_end i_worth i_faultKind i_faultPlace i_got i_worked (nI dl) i_isPlanned (nI n_205) x_203)), (q 51, .inl (E.2.1 0, 512, .inl a_least)), (q 55, .inl (E.2.1 0, 4, .inl a_sets)), (q 54, .inl (E.2.1 0, 7, .inl n_208)), (q 53, .inl (E.2.1 0, 7, .inl a_given))]) [0, 3, 4, 2, 1] rfl
                have hD9 := hD.sub (ws' := [(h0, .inr (12, mG q i_taped i_size i_sort i_what i_at i_end i_worth i_faultKind i_faultPlace i_got i_worked (nI dl) i_isPlanned (nI n_205) x_203)), (q 51, .inl (E.2.1 0, 512, .inl a_least)), (q 55, .inl (E.2.1 0, 4, .inl a_sets)), (q 54, .inl (E.2.1 0, 7, .inl n_208)), (q 53, .inl (E.2.1 0, 7, .inl a_given))]) [0, 3, 4, 2, 1] (by decide) rfl
                exact W.vret hx hb hr (fun t ht hW => ⟨⟨(nI n_205, x_203, a_sets, n_208, a_given), rfl, (BG_post hn9 (BG_new hdl hp9 (F4_all hk0 hk1 hk2 hk3) (Or.inl (by rw [← hcn9]; exact gx_gt (by omega) c_206 c_207)) (by rw [← hcn9]) hc39.1 (fun j hj => (hcp j hj).trans (hGv j (by omega))) hB9)), hI_sets, (fun i hi => rfl), (fun k hk => rfl), by rw [ht]; exact hP9, hD9⟩, hS.F ht⟩) hS.2.2 dX12_give_169
              · refine lv_iload_n hx hb dX12_give_118 rfl (lv_at hl 3 rfl) ?_
                refine lv_aload_n hx hb dX12_give_119 rfl (lv_at hl 1 rfl) ?_
                refine va_get (D := E.1) (ci := 12) (v := .int i_bestCost) (C := RX12) (T := TX12) (N := 59) hx hb hts inX12 hown hK hP 0 rfl rfl 58 (by decide) fl303 (fun _ h9 => h9) rfl dX12_give_120 ?_
                refine lv_icmp_lt (tgt := 127) hx hb dX12_give_123 (by decide) (fun c_209 => ?_) (fun c_209 => ?_)
                · refine lv_aload_n hx hb dX12_give_127 rfl (lv_at hl 1 rfl) ?_
                  refine lv_iload_n hx hb dX12_give_128 rfl (lv_at hl 2 rfl) ?_
                  refine va_put (D := E.1) (ci := 12) (v := .int (nI n_205)) (ty := .int) (C := RX12) (T := TX12) (N := 59) hx hb hts inX12 tyX12 tyX12_ok nmX12 hown hK hP hD hS 0 rfl rfl 57 (by decide) fl300 (fun _ h9 => h9) rfl (by decide +kernel) rfl rfl (Nat.le_of_ble_eq_true rfl) dX12_give_129 (fun H locs hP hD hS => ?_)
                  have hP : va_P E.1 vwCl [(h0, .inr (12, mG q i_taped i_size i_sort i_what i_at i_end i_worth i_faultKind i_faultPlace i_got i_worked (nI dl) i_isPlanned (nI n_205) i_bestCost)), (q 51, .inl (E.2.1 0, 512, .inl a_least)), (q 55, .inl (E.2.1 0, 4, .inl a_sets)), (q 54, .inl (E.2.1 0, 7, .inl a_bestGiven)), (q 53, .inl (E.2.1 0, 7, .inl a_given))] H := hP
                  have hD : va_D A [(h0, .inr (12, mG q i_taped i_size i_sort i_what i_at i_end i_worth i_faultKind i_faultPlace i_got i_worked (nI dl) i_isPlanned (nI n_205) i_bestCost)), (q 51, .inl (E.2.1 0, 512, .inl a_least)), (q 55, .inl (E.2.1 0, 4, .inl a_sets)), (q 54, .inl (E.2.1 0, 7, .inl a_bestGiven)), (q 53, .inl (E.2.1 0, 7, .inl a_given))] := hD
                  refine lv_aload_n hx hb dX12_give_132 rfl (lv_at hl 1 rfl) ?_
                  refine lv_iload_n hx hb dX12_give_133 rfl (lv_at hl 3 rfl) ?_
                  refine va_put (D := E.1) (ci := 12) (v := .int x_203) (ty := .int) (C := RX12) (T := TX12) (N := 59) hx hb hts inX12 tyX12 tyX12_ok nmX12 hown hK hP hD hS 0 rfl rfl 58 (by decide) fl303 (fun _ h9 => h9) rfl (by decide +kernel) rfl rfl (Nat.le_of_ble_eq_true rfl) dX12_give_134 (fun H locs hP hD hS => ?_)
                  have hP : va_P E.1 vwCl [(h0, .inr (12, mG q i_taped i_size i_sort i_what i_at i_end i_worth i_faultKind i_faultPlace i_got i_worked (nI dl) i_isPlanned (nI n_205) x_203)), (q 51, .inl (E.2.1 0, 512, .inl a_least)), (q 55, .inl (E.2.1 0, 4, .inl a_sets)), (q 54, .inl (E.2.1 0, 7, .inl a_bestGiven)), (q 53, .inl (E.2.1 0, 7, .inl a_given))] H := hP
                  have hD : va_D A [(h0, .inr (12, mG q i_taped i_size i_sort i_what i_at i_end i_worth i_faultKind i_faultPlace i_got i_worked (nI dl) i_isPlanned (nI n_205) x_203)), (q 51, .inl (E.2.1 0, 512, .inl a_least)), (q 55, .inl (E.2.1 0, 4, .inl a_sets)), (q 54, .inl (E.2.1 0, 7, .inl a_bestGiven)), (q 53, .inl (E.2.1 0, 7, .inl a_given))] := hD
                  refine lv_iconst (v := 0) hx hb dX12_give_137 (by decide) ?_
                  refine lv_istore (lv' := [(4, .int 0), (0, .ref h0), (2, .int (nI n_205)), (3, .int x_203)]) hx hb dX12_give_138 hl (by decide) rfl (fun ls hl => ?_)
                  have hPl := hP.sub (ws' := [(h0, .inr (12, mG q i_taped i_size i_sort i_what i_at i_end i_worth i_faultKind i_faultPlace i_got i_worked (nI dl) i_isPlanned (nI n_205) x_203)), (q 53, .inl (E.2.1 0, 7, .inl a_given)), (q 54, .inl (E.2.1 0, 7, .inl a_bestGiven)), (q 51, .inl (E.2.1 0, 512, .inl a_least)), (q 55, .inl (E.2.1 0, 4, .inl a_sets))]) [0, 4, 3, 1, 2] rfl
                  have hDl := hD.sub (ws' := [(h0, .inr (12, mG q i_taped i_size i_sort i_what i_at i_end i_worth i_faultKind i_faultPlace i_got i_worked (nI dl) i_isPlanned (nI n_205) x_203)), (q 53, .inl (E.2.1 0, 7, .inl a_given)), (q 54, .inl (E.2.1 0, 7, .inl a_bestGiven)), (q 51, .inl (E.2.1 0, 512, .inl a_least)), (q 55, .inl (E.2.1 0, 4, .inl a_sets))]) [0, 4, 3, 1, 2] (by decide) rfl
                  refine lm_copy E h0 q i_taped i_size i_sort i_what i_at i_end i_worth i_faultKind i_faultPlace i_got i_worked i_isPlanned (nI n_205) x_203 dl a_given ([(q 51, .inl (E.2.1 0, 512, .inl a_least)), (q 55, .inl (E.2.1 0, 4, .inl a_sets))]) hx hb hml hown hts hkn hst hA (by omega) (fun n_210 H locs ls hcp hP hD hS hl => ?_) 9 0 a_bestGiven _ _ _ (by omega) (by omega) (fun j hj => absurd hj (Nat.not_lt_zero j)) hPl hDl hS (lv_sub hl [1, 0] rfl)
                  have hP : va_P E.1 vwCl [(h0, .inr (12, mG q i_taped i_size i_sort i_what i_at i_end i_worth i_faultKind i_faultPlace i_got i_worked (nI dl) i_isPlanned (nI n_205) x_203)), (q 53, .inl (E.2.1 0, 7, .inl a_given)), (q 54, .inl (E.2.1 0, 7, .inl n_210)), (q 51, .inl (E.2.1 0, 512, .inl a_least)), (q 55, .inl (E.2.1 0, 4, .inl a_sets))] H := hP
                  have hD : va_D A [(h0, .inr (12, mG q i_taped i_size i_sort i_what i_at i_end i_worth i_faultKind i_faultPlace i_got i_worked (nI dl) i_isPlanned (nI n_205) x_203)), (q 53, .inl (E.2.1 0, 7, .inl a_given)), (q 54, .inl (E.2.1 0, 7, .inl n_210)), (q 51, .inl (E.2.1 0, 512, .inl a_least)), (q 55, .inl (E.2.1 0, 4, .inl a_sets))] := hD
                  have hP9 := hP.sub (ws' := [(h0, .inr (12, mG q i_taped i_size i_sort i_what i_at i_end i_worth i_faultKind i_faultPlace i_got i_worked (nI dl) i_isPlanned (nI n_205) x_203)), (q 51, .inl (E.2.1 0, 512, .inl a_least)), (q 55, .inl (E.2.1 0, 4, .inl a_sets)), (q 54, .inl (E.2.1 0, 7, .inl n_210)), (q 53, .inl (E.2.1 0, 7, .inl a_given))]) [0, 3, 4, 2, 1] rfl
                  have hD9 := hD.sub (ws' := [(h0, .inr (12, mG q i_taped i_size i_sort i_what i_at i_end i_worth i_faultKind i_faultPlace i_got i_worked (nI dl) i_isPlanned (nI n_205) x_203)), (q 51, .inl (E.2.1 0, 512, .inl a_least)), (q 55, .inl (E.2.1 0, 4, .inl a_sets)), (q 54, .inl (E.2.1 0, 7, .inl n_210)), (q 53, .inl (E.2.1 0, 7, .inl a_given))]) [0, 3, 4, 2, 1] (by decide) rfl
                  exact W.vret hx hb hr (fun t ht hW => ⟨⟨(nI n_205, x_203, a_sets, n_210, a_given), rfl, (BG_post hn9 (BG_new hdl hp9 (F4_all hk0 hk1 hk2 hk3) (Or.inr ⟨(by rw [← hcn9]; exact (gx_eq (by omega) c_207).symm), (by rw [← hc39.1]; exact (ii_lt _ _).mp c_209)⟩) (by rw [← hcn9]) hc39.1 (fun j hj => (hcp j hj).trans (hGv j (by omega))) hB9)), hI_sets, (fun i hi => rfl), (fun k hk => rfl), by rw [ht]; exact hP9, hD9⟩, hS.F ht⟩) hS.2.2 dX12_give_169
                · have hP9 := hP.sub (ws' := [(h0, .inr (12, mG q i_taped i_size i_sort i_what i_at i_end i_worth i_faultKind i_faultPlace i_got i_worked (nI dl) i_isPlanned i_bestDone i_bestCost)), (q 51, .inl (E.2.1 0, 512, .inl a_least)), (q 55, .inl (E.2.1 0, 4, .inl a_sets)), (q 54, .inl (E.2.1 0, 7, .inl a_bestGiven)), (q 53, .inl (E.2.1 0, 7, .inl a_given))]) [0, 1, 2, 3, 4] rfl
                  have hD9 := hD.sub (ws' := [(h0, .inr (12, mG q i_taped i_size i_sort i_what i_at i_end i_worth i_faultKind i_faultPlace i_got i_worked (nI dl) i_isPlanned i_bestDone i_bestCost)), (q 51, .inl (E.2.1 0, 512, .inl a_least)), (q 55, .inl (E.2.1 0, 4, .inl a_sets)), (q 54, .inl (E.2.1 0, 7, .inl a_bestGiven)), (q 53, .inl (E.2.1 0, 7, .inl a_given))]) [0, 1, 2, 3, 4] (by decide) rfl
                  exact W.vret hx hb hr (fun t ht hW => ⟨⟨(i_bestDone, i_bestCost, a_sets, a_bestGiven, a_given), rfl, (BG_post hn9 (BG_old hdl hp9 (Or.inr ⟨(by rw [← hcn9]; exact gx_eq (by omega) c_207), (by rw [← hc39.1]; exact gx_le c_209)⟩) hB9)), hI_sets, (fun i hi => rfl), (fun k hk => rfl), by rw [ht]; exact hP9, hD9⟩, hS.F ht⟩) hS.2.2 dX12_give_126
          · have hP9 := hP.sub (ws' := [(h0, .inr (12, mG q i_taped i_size i_sort i_what i_at i_end i_worth i_faultKind i_faultPlace i_got i_worked (nI dl) i_isPlanned i_bestDone i_bestCost)), (q 51, .inl (E.2.1 0, 512, .inl a_least)), (q 55, .inl (E.2.1 0, 4, .inl a_sets)), (q 54, .inl (E.2.1 0, 7, .inl a_bestGiven)), (q 53, .inl (E.2.1 0, 7, .inl a_given))]) [0, 1, 2, 3, 4] rfl
            have hD9 := hD.sub (ws' := [(h0, .inr (12, mG q i_taped i_size i_sort i_what i_at i_end i_worth i_faultKind i_faultPlace i_got i_worked (nI dl) i_isPlanned i_bestDone i_bestCost)), (q 51, .inl (E.2.1 0, 512, .inl a_least)), (q 55, .inl (E.2.1 0, 4, .inl a_sets)), (q 54, .inl (E.2.1 0, 7, .inl a_bestGiven)), (q 53, .inl (E.2.1 0, 7, .inl a_given))]) [0, 1, 2, 3, 4] (by decide) rfl
            exact W.vret hx hb hr (fun t ht hW => ⟨⟨(i_bestDone, i_bestCost, a_sets, a_bestGiven, a_given), rfl, (BG_post hn9 (BG_inf hp9 (c := 3) (by decide) (fun q9 => absurd ((hKm 3 (by decide) w_192 (by omega)).1.mpr (by rw [hw39]; exact q9)) (fun r9 => r9 (by rw [← nI_clamp (n := 128 * 3 + w_192) (by omega)]; exact ex_197.symm.trans c_198))) hB9)), hI_sets, (fun i hi => rfl), (fun k hk => rfl), by rw [ht]; exact hP9, hD9⟩, hS.F ht⟩) hS.2.2 dX12_give_44
        · have hP9 := hP.sub (ws' := [(h0, .inr (12, mG q i_taped i_size i_sort i_what i_at i_end i_worth i_faultKind i_faultPlace i_got i_worked (nI dl) i_isPlanned i_bestDone i_bestCost)), (q 51, .inl (E.2.1 0, 512, .inl a_least)), (q 55, .inl (E.2.1 0, 4, .inl a_sets)), (q 54, .inl (E.2.1 0, 7, .inl a_bestGiven)), (q 53, .inl (E.2.1 0, 7, .inl a_given))]) [0, 1, 2, 3, 4] rfl
          have hD9 := hD.sub (ws' := [(h0, .inr (12, mG q i_taped i_size i_sort i_what i_at i_end i_worth i_faultKind i_faultPlace i_got i_worked (nI dl) i_isPlanned i_bestDone i_bestCost)), (q 51, .inl (E.2.1 0, 512, .inl a_least)), (q 55, .inl (E.2.1 0, 4, .inl a_sets)), (q 54, .inl (E.2.1 0, 7, .inl a_bestGiven)), (q 53, .inl (E.2.1 0, 7, .inl a_given))]) [0, 1, 2, 3, 4] (by decide) rfl
          exact W.vret hx hb hr (fun t ht hW => ⟨⟨(i_bestDone, i_bestCost, a_sets, a_bestGiven, a_given), rfl, (BG_post hn9 (BG_inf hp9 (c := 2) (by decide) (fun q9 => absurd ((hKm 2 (by decide) w_175 (by omega)).1.mpr (by rw [hw29]; exact q9)) (fun r9 => r9 (by rw [← nI_clamp (n := 128 * 2 + w_175) (by omega)]; exact ex_180.symm.trans c_181))) hB9)), hI_sets, (fun i hi => rfl), (fun k hk => rfl), by rw [ht]; exact hP9, hD9⟩, hS.F ht⟩) hS.2.2 dX12_give_44
      · have hP9 := hP.sub (ws' := [(h0, .inr (12, mG q i_taped i_size i_sort i_what i_at i_end i_worth i_faultKind i_faultPlace i_got i_worked (nI dl) i_isPlanned i_bestDone i_bestCost)), (q 51, .inl (E.2.1 0, 512, .inl a_least)), (q 55, .inl (E.2.1 0, 4, .inl a_sets)), (q 54, .inl (E.2.1 0, 7, .inl a_bestGiven)), (q 53, .inl (E.2.1 0, 7, .inl a_given))]) [0, 1, 2, 3, 4] rfl
        have hD9 := hD.sub (ws' := [(h0, .inr (12, mG q i_taped i_size i_sort i_what i_at i_end i_worth i_faultKind i_faultPlace i_got i_worked (nI dl) i_isPlanned i_bestDone i_bestCost)), (q 51, .inl (E.2.1 0, 512, .inl a_least)), (q 55, .inl (E.2.1 0, 4, .inl a_sets)), (q 54, .inl (E.2.1 0, 7, .inl a_bestGiven)), (q 53, .inl (E.2.1 0, 7, .inl a_given))]) [0, 1, 2, 3, 4] (by decide) rfl
        exact W.vret hx hb hr (fun t ht hW => ⟨⟨(i_bestDone, i_bestCost, a_sets, a_bestGiven, a_given), rfl, (BG_post hn9 (BG_inf hp9 (c := 1) (by decide) (fun q9 => absurd ((hKm 1 (by decide) w_158 (by omega)).1.mpr (by rw [hw19]; exact q9)) (fun r9 => r9 (by rw [← nI_clamp (n := 128 * 1 + w_158) (by omega)]; exact ex_163.symm.trans c_164))) hB9)), hI_sets, (fun i hi => rfl), (fun k hk => rfl), by rw [ht]; exact hP9, hD9⟩, hS.F ht⟩) hS.2.2 dX12_give_44
    · have hP9 := hP.sub (ws' := [(h0, .inr (12, mG q i_taped i_size i_sort i_what i_at i_end i_worth i_faultKind i_faultPlace i_got i_worked (nI dl) i_isPlanned i_bestDone i_bestCost)), (q 51, .inl (E.2.1 0, 512, .inl a_least)), (q 55, .inl (E.2.1 0, 4, .inl a_sets)), (q 54, .inl (E.2.1 0, 7, .inl a_bestGiven)), (q 53, .inl (E.2.1 0, 7, .inl a_given))]) [0, 1, 2, 3, 4] rfl
      have hD9 := hD.sub (ws' := [(h0, .inr (12, mG q i_taped i_size i_sort i_what i_at i_end i_worth i_faultKind i_faultPlace i_got i_worked (nI dl) i_isPlanned i_bestDone i_bestCost)), (q 51, .inl (E.2.1 0, 512, .inl a_least)), (q 55, .inl (E.2.1 0, 4, .inl a_sets)), (q 54, .inl (E.2.1 0, 7, .inl a_bestGiven)), (q 53, .inl (E.2.1 0, 7, .inl a_given))]) [0, 1, 2, 3, 4] (by decide) rfl
      exact W.vret hx hb hr (fun t ht hW => ⟨⟨(i_bestDone, i_bestCost, a_sets, a_bestGiven, a_given), rfl, (BG_post hn9 (BG_inf hp9 (c := 0) (by decide) (fun q9 => absurd ((hKm 0 (by decide) w_141 (by omega)).1.mpr (by rw [hw09]; exact q9)) (fun r9 => r9 (by rw [← nI_clamp (n := 128 * 0 + w_141) (by omega)]; exact ex_146.symm.trans c_147))) hB9)), hI_sets, (fun i hi => rfl), (fun k hk => rfl), by rw [ht]; exact hP9, hD9⟩, hS.F ht⟩) hS.2.2 dX12_give_44
set_option maxHeartbeats 4000000 in
set_option maxRecDepth 100000 in
theorem c_X12_give0 (l : Launch) (E : vE) (h0 : Nat) (q : Nat → Nat) (i_taped : Int32) (i_size : Int32) (i_sort : Int32) (i_what : Int32) (i_at : Int32) (i_end : Int32) (i_worth : Int32) (i_faultKind : Int32) (i_faultPlace : Int32) (i_got : Int32) (i_worked : Int32) (i_isPlanned : Int32) (i_bestDone : Int32) (i_bestCost : Int32) (dl : Nat) (FF : Nat → Nat → Prop) (CC : Nat → Nat → Int) (gp : Nat → Nat) (a_least : Nat → Int32) (a_sets : Nat → Int32) (a_bestGiven : Nat → Int32) (a_given : Nat → Int32) (sz : Nat) (hdl : dl ≤ 7) (hd : 0 ≤ dl) (hp : ∀ k : Nat, k < 0 → gp k ≤ 4) (hSt : ∀ i : Nat, i < 4 → a_sets i = nI (setOf gp i 0)) (hGv : ∀ k : Nat, k < 0 → a_given k = gI (gp k)) (hBG : BG FF CC dl (hN gp 0 * 5 ^ (dl - 0)) i_bestDone i_bestCost a_bestGiven) (hKm : ∀ i : Nat, i < 4 → ∀ z : Nat, z < 128 → ((¬ a_least (128 * i + z) = -1) ↔ FF i z) ∧ ((¬ a_least (128 * i + z) = -1) → (a_least (128 * i + z)).toInt = CC i z)) (hCb : ∀ i : Nat, i < 4 → ∀ z : Nat, FF i z → 0 ≤ CC i z ∧ CC i z ≤ 70000) (hI_sets : ∀ k : Nat, k < 4 → inR (a_sets k) 0 127 = true) : Met l yX12_give wsX12_give ({ frames := 7, cells := 0, slots := 0, locals := 175 }) (pcW E [.ref h0, .int 0] sz [(h0, .inr (12, mG q i_taped i_size i_sort i_what i_at i_end i_worth i_faultKind i_faultPlace i_got i_worked (nI dl) i_isPlanned i_bestDone i_bestCost)), (q 51, .inl (E.2.1 0, 512, .inl a_least)), (q 55, .inl (E.2.1 0, 4, .inl a_sets)), (q 54, .inl (E.2.1 0, 7, .inl a_bestGiven)), (q 53, .inl (E.2.1 0, 7, .inl a_given))]) (va_Qv (fun (u : Int32 × Int32 × (Nat → Int32) × (Nat → Int32) × (Nat → Int32)) => match u with | (bd2, bc2, b_sets, b_bestGiven, b_given) => BG FF CC dl ((hN gp 0 + 1) * 5 ^ (dl - 0)) bd2 bc2 b_bestGiven) (fun (u : Int32 × Int32 × (Nat → Int32) × (Nat → Int32) × (Nat → Int32)) (t : State) => match u with | (bd2, bc2, b_sets, b_bestGiven, b_given) => (∀ k : Nat, k < 4 → inR (b_sets k) 0 127 = true) ∧ (∀ i : Nat, i < 4 → b_sets i = a_sets i) ∧ (∀ k : Nat, k < 0 → b_given k = a_given k) ∧ wB E (va_A [(h0, .inr (12, mG q i_taped i_size i_sort i_what i_at i_end i_worth i_faultKind i_faultPlace i_got i_worked (nI dl) i_isPlanned i_bestDone i_bestCost)), (q 51, .inl (E.2.1 0, 512, .inl a_least)), (q 55, .inl (E.2.1 0, 4, .inl a_sets)), (q 54, .inl (E.2.1 0, 7, .inl a_bestGiven)), (q 53, .inl (E.2.1 0, 7, .inl a_given))] sz) [(h0, .inr (12, mG q i_taped i_size i_sort i_what i_at i_end i_worth i_faultKind i_faultPlace i_got i_worked (nI dl) i_isPlanned bd2 bc2)), (q 51, .inl (E.2.1 0, 512, .inl a_least)), (q 55, .inl (E.2.1 0, 4, .inl b_sets)), (q 54, .inl (E.2.1 0, 7, .inl b_bestGiven)), (q 53, .inl (E.2.1 0, 7, .inl b_given))] t) (va_A [(h0, .inr (12, mG q i_taped i_size i_sort i_what i_at i_end i_worth i_faultKind i_faultPlace i_got i_worked (nI dl) i_isPlanned i_bestDone i_bestCost)), (q 51, .inl (E.2.1 0, 512, .inl a_least)), (q 55, .inl (E.2.1 0, 4, .inl a_sets)), (q 54, .inl (E.2.1 0, 7, .inl a_bestGiven)), (q 53, .inl (E.2.1 0, 7, .inl a_given))] sz)) 0 0 (va_A [(h0, .inr (12, mG q i_taped i_size i_sort i_what i_at i_end i_worth i_faultKind i_faultPlace i_got i_worked (nI dl) i_isPlanned i_bestDone i_bestCost)), (q 51, .inl (E.2.1 0, 512, .inl a_least)), (q 55, .inl (E.2.1 0, 4, .inl a_sets)), (q 54, .inl (E.2.1 0, 7, .inl a_bestGiven)), (q 53, .inl (E.2.1 0, 7, .inl a_given))] sz) := by
  refine Met.ofW (cc := cX12_give) (maxL := 6) (ret := none) (by decide) rfl ?_
  intro p e s m args below meth c s₁ B hml hv
  obtain ⟨rfl, hsz, hP, hkn, hD0, hst⟩ := hv
  have hx := B.exec
  have hb := B.bytes
  have hr := B.returns
  have hts := atoms_spec (ws := wsX12_give) B.pre
  have hown : s.vm.findClass RX12 = some m.cls := findClass_of_methodNamed B.named
  have hlocks := B.notSynchronized
  subst hsz
  have hD := hD0.self (sz := s.heap.size)
  have hK := hkn.1
  have hAO := hkn.2.2.1
  generalize hAe : va_A [(h0, .inr (12, mG q i_taped i_size i_sort i_what i_at i_end i_worth i_faultKind i_faultPlace i_got i_worked (nI dl) i_isPlanned i_bestDone i_bestCost)), (q 51, .inl (E.2.1 0, 512, .inl a_least)), (q 55, .inl (E.2.1 0, 4, .inl a_sets)), (q 54, .inl (E.2.1 0, 7, .inl a_bestGiven)), (q 53, .inl (E.2.1 0, 7, .inl a_given))] s.heap.size = A at hD hst ⊢
  have hA : ∀ q : Nat, s.heap.size ≤ q → A q := fun q h => by rw [← hAe]; exact Or.inr h
  have hS : va_S A s.heap s.heap [] := va_S.rf
  have hP : va_P E.1 vwCl [(h0, .inr (12, mG q i_taped i_size i_sort i_what i_at i_end i_worth i_faultKind i_faultPlace i_got i_worked (nI dl) i_isPlanned i_bestDone i_bestCost)), (q 51, .inl (E.2.1 0, 512, .inl a_least)), (q 55, .inl (E.2.1 0, 4, .inl a_sets)), (q 54, .inl (E.2.1 0, 7, .inl a_bestGiven)), (q 53, .inl (E.2.1 0, 7, .inl a_given))] s.heap := hP
  have hl := lv_entry ([.ref h0, .int 0]) (n := 6) (Nat.le_of_ble_eq_true rfl)
  rw [lg_entry_eq]
  generalize (lg_sl ([.ref h0, .int 0]) ++ List.replicate (6 - (lg_sl ([.ref h0, .int 0])).length) Slot.unset).toArray = ls at hl ⊢
  have hl : lv_has ls 6 [(0, .ref h0), (1, .int 0)] := hl
  have fl130 := hts (.fieldLink RX12 130 "BoatsHomeModel" "least" "[I") (by first | exact List.mem_of_getElem? (i := 2) rfl | decide +kernel)
  have fl136 := hts (.fieldLink RX12 136 "BoatsHomeModel" "given" "[I") (by first | exact List.mem_of_getElem? (i := 7) rfl | decide +kernel)
  have fl139 := hts (.fieldLink RX12 139 "BoatsHomeModel" "bestGiven" "[I") (by first | exact List.mem_of_getElem? (i := 6) rfl | decide +kernel)
  have fl142 := hts (.fieldLink RX12 142 "BoatsHomeModel" "sets" "[I") (by first | exact List.mem_of_getElem? (i := 3) rfl | decide +kernel)
  have fl289 := hts (.fieldLink RX12 289 "BoatsHomeModel" "deliveries" "I") (by first | exact List.mem_of_getElem? (i := 1) rfl | decide +kernel)
  have fl300 := hts (.fieldLink RX12 300 "BoatsHomeModel" "bestDone" "I") (by first | exact List.mem_of_getElem? (i := 4) rfl | decide +kernel)
  have fl303 := hts (.fieldLink RX12 303 "BoatsHomeModel" "bestCost" "I") (by first | exact List.mem_of_getElem? (i := 5) rfl | decide +kernel)
  have inX12 : ∀ w ∈ u_ws RX12 TX12 59, w ∈ wsX12_give := by first | exact fun w h9 => (List.mem_cons_of_mem _ (List.mem_append_right _ h9)) | decide +kernel
  refine lv_iload_n hx hb dX12_give_0 rfl (lv_at hl 1 rfl) ?_
  refine lv_aload_n hx hb dX12_give_1 rfl (lv_at hl 0 rfl) ?_
  refine va_get (D := E.1) (ci := 12) (v := .int (nI dl)) (C := RX12) (T := TX12) (N := 59) hx hb hts inX12 hown hK hP 0 rfl rfl 41 (by decide) fl289 (fun _ h9 => h9) rfl dX12_give_2 ?_
  refine lv_icmp_ne (tgt := 170) hx hb dX12_give_5 (by decide) (fun c_1 => ?_) (fun c_1 => ?_)
  · have hd2 : 0 + 1 ≤ dl := by
      rcases Nat.lt_or_ge 0 dl with q | q
      · exact q
      · exact absurd (by rw [show dl = 0 by omega]; rfl) c_1
    refine lv_iconst (v := 0) hx hb dX12_give_170 (by decide) ?_
    refine lv_istore_n (lv' := [(2, .int 0), (0, .ref h0), (1, .int 0)]) hx hb dX12_give_171 rfl hl (by decide) rfl (fun ls hl => ?_)
    refine lv_iload_n hx hb dX12_give_172 rfl (lv_at hl 0 rfl) ?_
    refine lv_iconst (v := 4) hx hb dX12_give_173 (by decide) ?_
    refine lv_icmp_ge (tgt := 223) hx hb dX12_give_174 (by decide) (fun c9 => absurd c9 (by decide)) (fun _ => ?_)
    refine lv_aload_n hx hb dX12_give_177 rfl (lv_at hl 1 rfl) ?_
    refine va_get (D := E.1) (ci := 12) (v := .ref (q 53)) (C := RX12) (T := TX12) (N := 59) hx hb hts inX12 hown hK hP 0 rfl rfl 53 (by decide) fl136 (fun _ h9 => h9) rfl dX12_give_178 ?_
    refine lv_iload_n hx hb dX12_give_181 rfl (lv_at hl 2 rfl) ?_
    refine lv_iload_n hx hb dX12_give_182 rfl (lv_at hl 0 rfl) ?_
    refine va_iast hx hb hK hP hD hS 4 0 rfl rfl (show vp_in 0 7 from by unfold vp_in; decide) dX12_give_183 (fun H locs hP hD hS => ?_)
    have hP : va_P E.1 vwCl [(h0, .inr (12, mG q i_taped i_size i_sort i_what i_at i_end i_worth i_faultKind i_faultPlace i_got i_worked (nI dl) i_isPlanned i_bestDone i_bestCost)), (q 51, .inl (E.2.1 0, 512, .inl a_least)), (q 55, .inl (E.2.1 0, 4, .inl a_sets)), (q 54, .inl (E.2.1 0, 7, .inl a_bestGiven)), (q 53, .inl (E.2.1 0, 7, .inl (upd a_given (Int32.toNatClampNeg 0) 0)))] H := hP
    have hD : va_D A [(h0, .inr (12, mG q i_taped i_size i_sort i_what i_at i_end i_worth i_faultKind i_faultPlace i_got i_worked (nI dl) i_isPlanned i_bestDone i_bestCost)), (q 51, .inl (E.2.1 0, 512, .inl a_least)), (q 55, .inl (E.2.1 0, 4, .inl a_sets)), (q 54, .inl (E.2.1 0, 7, .inl a_bestGiven)), (q 53, .inl (E.2.1 0, 7, .inl (upd a_given (Int32.toNatClampNeg 0) 0)))] := hD
    obtain ⟨f_2, ef_2⟩ : ∃ g : Nat → Int32, g = upd a_given (Int32.toNatClampNeg 0) 0 := ⟨_, rfl⟩
    rw [← ef_2] at hP hD
    refine lv_aload_n hx hb dX12_give_184 rfl (lv_at hl 1 rfl) ?_
    refine va_get (D := E.1) (ci := 12) (v := .ref (q 55)) (C := RX12) (T := TX12) (N := 59) hx hb hts inX12 hown hK hP 0 rfl rfl 55 (by decide) fl142 (fun _ h9 => h9) rfl dX12_give_185 ?_
    refine lv_iload_n hx hb dX12_give_188 rfl (lv_at hl 0 rfl) ?_
    refine lv_dup2_11 hx hb dX12_give_189 rfl rfl ?_
    refine va_iald hx hb hK hP 2 0 rfl rfl (show vp_in 0 4 from by unfold vp_in; decide) dX12_give_190 ?_
    refine lv_topi (fun x_3 ex_3 => ?_)
    have hv_4 : inR x_3 0 127 = true := by rw [ex_3]; exact hI_sets _ (vin_cl (show vp_in 0 4 from by unfold vp_in; decide))
    obtain ⟨w_5, hw_6, ew_7⟩ := inR_nI (n := 127) (by decide) hv_4
    subst ew_7
    refine lv_iconst (v := 1) hx hb dX12_give_191 (by decide) ?_
    refine lv_iload_n hx hb dX12_give_192 rfl (lv_at hl 2 rfl) ?_
    refine lv_ishl hx hb dX12_give_193 ?_
    refine lv_topi (fun x_8 ex_8 => ?_)
    obtain rfl : x_8 = 1 := ex_8.trans (by decide +kernel)
    refine lv_ior hx hb dX12_give_194 ?_
    refine lv_topi (fun x_9 ex_9 => ?_)
    refine va_iast hx hb hK hP hD hS 2 0 rfl rfl (show vp_in 0 4 from by unfold vp_in; decide) dX12_give_195 (fun H locs hP hD hS => ?_)
    have hP : va_P E.1 vwCl [(h0, .inr (12, mG q i_taped i_size i_sort i_what i_at i_end i_worth i_faultKind i_faultPlace i_got i_worked (nI dl) i_isPlanned i_bestDone i_bestCost)), (q 51, .inl (E.2.1 0, 512, .inl a_least)), (q 55, .inl (E.2.1 0, 4, .inl (upd a_sets (Int32.toNatClampNeg 0) x_9))), (q 54, .inl (E.2.1 0, 7, .inl a_bestGiven)), (q 53, .inl (E.2.1 0, 7, .inl f_2))] H := hP
    have hD : va_D A [(h0, .inr (12, mG q i_taped i_size i_sort i_what i_at i_end i_worth i_faultKind i_faultPlace i_got i_worked (nI dl) i_isPlanned i_bestDone i_bestCost)), (q 51, .inl (E.2.1 0, 512, .inl a_least)), (q 55, .inl (E.2.1 0, 4, .inl (upd a_sets (Int32.toNatClampNeg 0) x_9))), (q 54, .inl (E.2.1 0, 7, .inl a_bestGiven)), (q 53, .inl (E.2.1 0, 7, .inl f_2))] := hD
    obtain ⟨f_10, ef_10⟩ : ∃ g : Nat → Int32, g = upd a_sets (Int32.toNatClampNeg 0) x_9 := ⟨_, rfl⟩
    rw [← ef_10] at hP hD
    have hI_11 : ∀ k : Nat, k < 4 → inR (f_10 k) 0 127 = true := by rw [ef_10]; exact all_upd (P := fun z => inR z 0 127 = true) hI_sets (by rw [ex_9]; exact or_lt7 _ (by omega) 0 (by decide))
    refine lv_aload_n hx hb dX12_give_196 rfl (lv_at hl 1 rfl) ?_
    refine lv_iload_n hx hb dX12_give_197 rfl (lv_at hl 2 rfl) ?_
    refine lv_iconst (v := 1) hx hb dX12_give_198 (by decide) ?_
    refine lv_iadd hx hb dX12_give_199 ?_
    refine lv_topi (fun x_12 ex_12 => ?_)
    obtain rfl : x_12 = 1 := ex_12.trans (by decide +kernel)
    have hp0 : ∀ i : Nat, i < 4 → f_10 i = put a_sets 0 0 i := put_of (prev := a_sets) (x := x_9) (y := nI w_5) (z := 1) (fun i hi => rfl) (by decide) (ef_10.trans (by rw [show Int32.toNatClampNeg 0 = 0 from by decide])) ex_9 (ex_3.trans (by rw [show Int32.toNatClampNeg 0 = 0 from by decide])) (by decide)
    have hv0 : ∀ k : Nat, k < 0 + 1 → f_2 k = gI (pg gp 0 0 k) := gv_put (cur := a_given) (fun k hk => rfl) hGv (ef_2.trans (by rw [show Int32.toNatClampNeg 0 = 0 from by decide])) (by decide)
    have hPc := hP.sub (ws' := [(h0, .inr (12, mG q i_taped i_size i_sort i_what i_at i_end i_worth i_faultKind i_faultPlace i_got i_worked (nI dl) i_isPlanned i_bestDone i_bestCost)), (q 51, .inl (E.2.1 0, 512, .inl a_least)), (q 55, .inl (E.2.1 0, 4, .inl f_10)), (q 54, .inl (E.2.1 0, 7, .inl a_bestGiven)), (q 53, .inl (E.2.1 0, 7, .inl f_2))]) [0, 1, 2, 3, 4] rfl
    have hDc := hD.sub (ws' := [(h0, .inr (12, mG q i_taped i_size i_sort i_what i_at i_end i_worth i_faultKind i_faultPlace i_got i_worked (nI dl) i_isPlanned i_bestDone i_bestCost)), (q 51, .inl (E.2.1 0, 512, .inl a_least)), (q 55, .inl (E.2.1 0, 4, .inl f_10)), (q 54, .inl (E.2.1 0, 7, .inl a_bestGiven)), (q 53, .inl (E.2.1 0, 7, .inl f_2))]) [0, 1, 2, 3, 4] (by decide) rfl
    have hFc := va_free (wc := [(h0, .inr (12, mG q i_taped i_size i_sort i_what i_at i_end i_worth i_faultKind i_faultPlace i_got i_worked (nI dl) i_isPlanned i_bestDone i_bestCost)), (q 51, .inl (E.2.1 0, 512, .inl a_least)), (q 55, .inl (E.2.1 0, 4, .inl f_10)), (q 54, .inl (E.2.1 0, 7, .inl a_bestGiven)), (q 53, .inl (E.2.1 0, 7, .inl f_2))]) hD hS hA [0, 1, 2, 3, 4] rfl
    refine va_callv (va_runV (As := [.int 1]) (rest := []) ⟨hx, hb, hml, hown, hts⟩ (c_X12_give1 l E h0 q i_taped i_size i_sort i_what i_at i_end i_worth i_faultKind i_faultPlace i_got i_worked i_isPlanned i_bestDone i_bestCost dl FF CC (pg gp 0 0) a_least f_10 a_bestGiven f_2 H.size hdl hd2 (pg_le hp (by decide)) (st_put hSt hp0) hv0 (BG_M (M_0 hd2) hBG) hKm hCb hI_11) (cwV 1 hts gX12_give_X12_give rfl rfl rfl hdV_X12_give ⟨Nat.le_of_ble_eq_true rfl, Nat.le_of_ble_eq_true rfl⟩) ⟨pcW_blind, va_recv hK hPc (ci := 12) (q0 := 0) rfl rfl, (pcW_pre hPc hkn hDc hst hS hFc)⟩ rfl rfl hl.1 rfl (lv_room (Nat.le_of_ble_eq_true rfl)) dX12_give_200 ⟨Nat.le_of_ble_eq_true rfl, Nat.le_of_ble_eq_true rfl⟩) hS (fun q _ h => hFc q h) hFc (fun u t H1 locs ht hvm hw_14 hB hz1 hk1 hS => ?_)
    obtain ⟨u_15, u_16, u_17, u_18, u_19⟩ := u
    obtain ⟨hf_20, hf_21, hf_22, hP1, hD1⟩ := hB
    rw [ht] at hP1
    try dsimp only at hw_14
    obtain ⟨hP, hD⟩ := va_join (wr := []) (w1 := [(h0, .inr (12, mG q i_taped i_size i_sort i_what i_at i_end i_worth i_faultKind i_faultPlace i_got i_worked (nI dl) i_isPlanned u_15 u_16)), (q 51, .inl (E.2.1 0, 512, .inl a_least)), (q 55, .inl (E.2.1 0, 4, .inl u_17)), (q 54, .inl (E.2.1 0, 7, .inl u_18)), (q 53, .inl (E.2.1 0, 7, .inl u_19))]) hP hD [0, 1, 2, 3, 4] [] rfl rfl (by decide) (by decide) hk1 hFc hP1 hD1
    generalize H1 = H at hP hS ⊢
    have hP : va_P E.1 vwCl [(h0, .inr (12, mG q i_taped i_size i_sort i_what i_at i_end i_worth i_faultKind i_faultPlace i_got i_worked (nI dl) i_isPlanned u_15 u_16)), (q 51, .inl (E.2.1 0, 512, .inl a_least)), (q 55, .inl (E.2.1 0, 4, .inl u_17)), (q 54, .inl (E.2.1 0, 7, .inl u_18)), (q 53, .inl (E.2.1 0, 7, .inl u_19))] H := hP
    have hD : va_D A [(h0, .inr (12, mG q i_taped i_size i_sort i_what i_at i_end i_worth i_faultKind i_faultPlace i_got i_worked (nI dl) i_isPlanned u_15 u_16)), (q 51, .inl (E.2.1 0, 512, .inl a_least)), (q 55, .inl (E.2.1 0, 4, .inl u_17)), (q 54, .inl (E.2.1 0, 7, .inl u_18)), (q 53, .inl (E.2.1 0, 7, .inl u_19))] := hD
    refine lv_aload_n hx hb dX12_give_203 rfl (lv_at hl 1 rfl) ?_
    refine va_get (D := E.1) (ci := 12) (v := .ref (q 55)) (C := RX12) (T := TX12) (N := 59) hx hb hts inX12 hown hK hP 0 rfl rfl 55 (by decide) fl142 (fun _ h9 => h9) rfl dX12_give_204 ?_
    refine lv_iload_n hx hb dX12_give_207 rfl (lv_at hl 0 rfl) ?_
    refine lv_dup2_11 hx hb dX12_give_208 rfl rfl ?_
    refine va_iald hx hb hK hP 2 0 rfl rfl (show vp_in 0 4 from by unfold vp_in; decide) dX12_give_209 ?_
    refine lv_topi (fun x_23 ex_23 => ?_)
    have hv_24 : inR x_23 0 127 = true := by rw [ex_23]; exact hf_20 _ (vin_cl (show vp_in 0 4 from by unfold vp_in; decide))
    obtain ⟨w_25, hw_26, ew_27⟩ := inR_nI (n := 127) (by decide) hv_24
    subst ew_27
    refine lv_iconst (v := 1) hx hb dX12_give_210 (by decide) ?_
    refine lv_iload_n hx hb dX12_give_211 rfl (lv_at hl 2 rfl) ?_
    refine lv_ishl hx hb dX12_give_212 ?_
    refine lv_topi (fun x_28 ex_28 => ?_)
    obtain rfl : x_28 = 1 := ex_28.trans (by decide +kernel)
    refine lv_iconst (v := (-1)) hx hb dX12_give_213 (by decide) ?_
    refine lv_ixor hx hb dX12_give_214 ?_
    refine lv_topi (fun x_29 ex_29 => ?_)
    obtain rfl : x_29 = (-2) := ex_29.trans (by decide +kernel)
    refine lv_iand hx hb dX12_give_215 ?_
    refine lv_topi (fun x_30 ex_30 => ?_)
    refine va_iast hx hb hK hP hD hS 2 0 rfl rfl (show vp_in 0 4 from by unfold vp_in; decide) dX12_give_216 (fun H locs hP hD hS => ?_)
    have hP : va_P E.1 vwCl [(h0, .inr (12, mG q i_taped i_size i_sort i_what i_at i_end i_worth i_faultKind i_faultPlace i_got i_worked (nI dl) i_isPlanned u_15 u_16)), (q 51, .inl (E.2.1 0, 512, .inl a_least)), (q 55, .inl (E.2.1 0, 4, .inl (upd u_17 (Int32.toNatClampNeg 0) x_30))), (q 54, .inl (E.2.1 0, 7, .inl u_18)), (q 53, .inl (E.2.1 0, 7, .inl u_19))] H := hP
    have hD : va_D A [(h0, .inr (12, mG q i_taped i_size i_sort i_what i_at i_end i_worth i_faultKind i_faultPlace i_got i_worked (nI dl) i_isPlanned u_15 u_16)), (q 51, .inl (E.2.1 0, 512, .inl a_least)), (q 55, .inl (E.2.1 0, 4, .inl (upd u_17 (Int32.toNatClampNeg 0) x_30))), (q 54, .inl (E.2.1 0, 7, .inl u_18)), (q 53, .inl (E.2.1 0, 7, .inl u_19))] := hD
    obtain ⟨f_31, ef_31⟩ : ∃ g : Nat → Int32, g = upd u_17 (Int32.toNatClampNeg 0) x_30 := ⟨_, rfl⟩
    rw [← ef_31] at hP hD
    have hI_32 : ∀ k : Nat, k < 4 → inR (f_31 k) 0 127 = true := by rw [ef_31]; exact all_upd (P := fun z => inR z 0 127 = true) hf_20 (by rw [ex_30]; exact and_lt7 _ (by omega) 0 (by decide))
    have hb0 : ∀ i : Nat, i < 4 → f_31 i = a_sets i := gback_of (u := u_17) (x := x_30) (y := nI w_25) (z := (-2)) (by decide) (by decide) ⟨gp, hSt⟩ hp0 hf_21 (ef_31.trans (by rw [show Int32.toNatClampNeg 0 = 0 from by decide])) ex_30 (ex_23.trans (by rw [show Int32.toNatClampNeg 0 = 0 from by decide])) (by decide)
    refine lv_iinc (v := 1) (lv' := [(2, .int 1), (0, .ref h0), (1, .int 0)]) hx hb dX12_give_217 hl (k := 0) rfl (by decide) (by decide) rfl (fun ls hl => ?_)
    refine lv_goto (tgt := 172) hx hb dX12_give_220 (by decide) ?_
    refine lv_iload_n hx hb dX12_give_172 rfl (lv_at hl 0 rfl) ?_
    refine lv_iconst (v := 4) hx hb dX12_give_173 (by decide) ?_
    refine lv_icmp_ge (tgt := 223) hx hb dX12_give_174 (by decide) (fun c9 => absurd c9 (by decide)) (fun _ => ?_)
    refine lv_aload_n hx hb dX12_give_177 rfl (lv_at hl 1 rfl) ?_
    refine va_get (D := E.1) (ci := 12) (v := .ref (q 53)) (C := RX12) (T := TX12) (N := 59) hx hb hts inX12 hown hK hP 0 rfl rfl 53 (by decide) fl136 (fun _ h9 => h9) rfl dX12_give_178 ?_
    refine lv_iload_n hx hb dX12_give_181 rfl (lv_at hl 2 rfl) ?_
    refine lv_iload_n hx hb dX12_give_182 rfl (lv_at hl 0 rfl) ?_
    refine va_iast hx hb hK hP hD hS 4 0 rfl rfl (show vp_in 0 7 from by unfold vp_in; decide) dX12_give_183 (fun H locs hP hD hS => ?_)
    have hP : va_P E.1 vwCl [(h0, .inr (12, mG q i_taped i_size i_sort i_what i_at i_end i_worth i_faultKind i_faultPlace i_got i_worked (nI dl) i_isPlanned u_15 u_16)), (q 51, .inl (E.2.1 0, 512, .inl a_least)), (q 55, .inl (E.2.1 0, 4, .inl f_31)), (q 54, .inl (E.2.1 0, 7, .inl u_18)), (q 53, .inl (E.2.1 0, 7, .inl (upd u_19 (Int32.toNatClampNeg 0) 1)))] H := hP
    have hD : va_D A [(h0, .inr (12, mG q i_taped i_size i_sort i_what i_at i_end i_worth i_faultKind i_faultPlace i_got i_worked (nI dl) i_isPlanned u_15 u_16)), (q 51, .inl (E.2.1 0, 512, .inl a_least)), (q 55, .inl (E.2.1 0, 4, .inl f_31)), (q 54, .inl (E.2.1 0, 7, .inl u_18)), (q 53, .inl (E.2.1 0, 7, .inl (upd u_19 (Int32.toNatClampNeg 0) 1)))] := hD
    obtain ⟨f_33, ef_33⟩ : ∃ g : Nat → Int32, g = upd u_19 (Int32.toNatClampNeg 0) 1 := ⟨_, rfl⟩
    rw [← ef_33] at hP hD
    refine lv_aload_n hx hb dX12_give_184 rfl (lv_at hl 1 rfl) ?_
    refine va_get (D := E.1) (ci := 12) (v := .ref (q 55)) (C := RX12) (T := TX12) (N := 59) hx hb hts inX12 hown hK hP 0 rfl rfl 55 (by decide) fl142 (fun _ h9 => h9) rfl dX12_give_185 ?_
    refine lv_iload_n hx hb dX12_give_188 rfl (lv_at hl 0 rfl) ?_
    refine lv_dup2_11 hx hb dX12_give_189 rfl rfl ?_
    refine va_iald hx hb hK hP 2 0 rfl rfl (show vp_in 1 4 from by unfold vp_in; decide) dX12_give_190 ?_
    refine lv_topi (fun x_34 ex_34 => ?_)
    have hv_35 : inR x_34 0 127 = true := by rw [ex_34]; exact hI_32 _ (vin_cl (show vp_in 1 4 from by unfold vp_in; decide))
    obtain ⟨w_36, hw_37, ew_38⟩ := inR_nI (n := 127) (by decide) hv_35
    subst ew_38
    refine lv_iconst (v := 1) hx hb dX12_give_191 (by decide) ?_
    refine lv_iload_n hx hb dX12_give_192 rfl (lv_at hl 2 rfl) ?_
    refine lv_ishl hx hb dX12_give_193 ?_
    refine lv_topi (fun x_39 ex_39 => ?_)
    obtain rfl : x_39 = 1 := ex_39.trans (by decide +kernel)
    refine lv_ior hx hb dX12_give_194 ?_
    refine lv_topi (fun x_40 ex_40 => ?_)
    refine va_iast hx hb hK hP hD hS 2 0 rfl rfl (show vp_in 1 4 from by unfold vp_in; decide) dX12_give_195 (fun H locs hP hD hS => ?_)
    have hP : va_P E.1 vwCl [(h0, .inr (12, mG q i_taped i_size i_sort i_what i_at i_end i_worth i_faultKind i_faultPlace i_got i_worked (nI dl) i_isPlanned u_15 u_16)), (q 51, .inl (E.2.1 0, 512, .inl a_least)), (q 55, .inl (E.2.1 0, 4, .inl (upd f_31 (Int32.toNatClampNeg 1) x_40))), (q 54, .inl (E.2.1 0, 7, .inl u_18)), (q 53, .inl (E.2.1 0, 7, .inl f_33))] H := hP
    have hD : va_D A [(h0, .inr (12, mG q i_taped i_size i_sort i_what i_at i_end i_worth i_faultKind i_faultPlace i_got i_worked (nI dl) i_isPlanned u_15 u_16)), (q 51, .inl (E.2.1 0, 512, .inl a_least)), (q 55, .inl (E.2.1 0, 4, .inl (upd f_31 (Int32.toNatClampNeg 1) x_40))), (q 54, .inl (E.2.1 0, 7, .inl u_18)), (q 53, .inl (E.2.1 0, 7, .inl f_33))] := hD
    obtain ⟨f_41, ef_41⟩ : ∃ g : Nat → Int32, g = upd f_31 (Int32.toNatClampNeg 1) x_40 := ⟨_, rfl⟩
    rw [← ef_41] at hP hD
    have hI_42 : ∀ k : Nat, k < 4 → inR (f_41 k) 0 127 = true := by rw [ef_41]; exact all_upd (P := fun z => inR z 0 127 = true) hI_32 (by rw [ex_40]; exact or_lt7 _ (by omega) 0 (by decide))
    refine lv_aload_n hx hb dX12_give_196 rfl (lv_at hl 1 rfl) ?_
    refine lv_iload_n hx hb dX12_give_197 rfl (lv_at hl 2 rfl) ?_
    refine lv_iconst (v := 1) hx hb dX12_give_198 (by decide) ?_
    refine lv_iadd hx hb dX12_give_199 ?_
    refine lv_topi (fun x_43 ex_43 => ?_)
    obtain rfl : x_43 = 1 := ex_43.trans (by decide +kernel)
    have hp1 : ∀ i : Nat, i < 4 → f_41 i = put a_sets 1 0 i := put_of (prev := f_31) (x := x_40) (y := nI w_36) (z := 1) hb0 (by decide) (ef_41.trans (by rw [show Int32.toNatClampNeg 1 = 1 from by decide])) ex_40 (ex_34.trans (by rw [show Int32.toNatClampNeg 1 = 1 from by decide])) (by decide)
    have hv1 : ∀ k : Nat, k < 0 + 1 → f_33 k = gI (pg gp 0 1 k) := gv_put (cur := u_19) (gv_cur (fun k hk => rfl) (ef_2.trans (by rw [show Int32.toNatClampNeg 0 = 0 from by decide])) hf_22) hGv (ef_33.trans (by rw [show Int32.toNatClampNeg 0 = 0 from by decide])) (by decide)
    have hPc := hP.sub (ws' := [(h0, .inr (12, mG q i_taped i_size i_sort i_what i_at i_end i_worth i_faultKind i_faultPlace i_got i_worked (nI dl) i_isPlanned u_15 u_16)), (q 51, .inl (E.2.1 0, 512, .inl a_least)), (q 55, .inl (E.2.1 0, 4, .inl f_41)), (q 54, .inl (E.2.1 0, 7, .inl u_18)), (q 53, .inl (E.2.1 0, 7, .inl f_33))]) [0, 1, 2, 3, 4] rfl
    have hDc := hD.sub (ws' := [(h0, .inr (12, mG q i_taped i_size i_sort i_what i_at i_end i_worth i_faultKind i_faultPlace i_got i_worked (nI dl) i_isPlanned u_15 u_16)), (q 51, .inl (E.2.1 0, 512, .inl a_least)), (q 55, .inl (E.2.1 0, 4, .inl f_41)), (q 54, .inl (E.2.1 0, 7, .inl u_18)), (q 53, .inl (E.2.1 0, 7, .inl f_33))]) [0, 1, 2, 3, 4] (by decide) rfl
    have hFc := va_free (wc := [(h0, .inr (12, mG q i_taped i_size i_sort i_what i_at i_end i_worth i_faultKind i_faultPlace i_got i_worked (nI dl) i_isPlanned u_15 u_16)), (q 51, .inl (E.2.1 0, 512, .inl a_least)), (q 55, .inl (E.2.1 0, 4, .inl f_41)), (q 54, .inl (E.2.1 0, 7, .inl u_18)), (q 53, .inl (E.2.1 0, 7, .inl f_33))]) hD hS hA [0, 1, 2, 3, 4] rfl
    refine va_callv (va_runV (As := [.int 1]) (rest := []) ⟨hx, hb, hml, hown, hts⟩ (c_X12_give1 l E h0 q i_taped i_size i_sort i_what i_at i_end i_worth i_faultKind i_faultPlace i_got i_worked i_isPlanned u_15 u_16 dl FF CC (pg gp 0 1) a_least f_41 u_18 f_33 H.size hdl hd2 (pg_le hp (by decide)) (st_put hSt hp1) hv1 (BG_M M_s hw_14) hKm hCb hI_42) (cwV 1 hts gX12_give_X12_give rfl rfl rfl hdV_X12_give ⟨Nat.le_of_ble_eq_true rfl, Nat.le_of_ble_eq_true rfl⟩) ⟨pcW_blind, va_recv hK hPc (ci := 12) (q0 := 0) rfl rfl, (pcW_pre hPc hkn hDc hst hS hFc)⟩ rfl rfl hl.1 rfl (lv_room (Nat.le_of_ble_eq_true rfl)) dX12_give_200 ⟨Nat.le_of_ble_eq_true rfl, Nat.le_of_ble_eq_true rfl⟩) hS (fun q _ h => hFc q h) hFc (fun u t H1 locs ht hvm hw_45 hB hz1 hk1 hS => ?_)
    obtain ⟨u_46, u_47, u_48, u_49, u_50⟩ := u
    obtain ⟨hf_51, hf_52, hf_53, hP1, hD1⟩ := hB
    rw [ht] at hP1
    try dsimp only at hw_45
    obtain ⟨hP, hD⟩ := va_join (wr := []) (w1 := [(h0, .inr (12, mG q i_taped i_size i_sort i_what i_at i_end i_worth i_faultKind i_faultPlace i_got i_worked (nI dl) i_isPlanned u_46 u_47)), (q 51, .inl (E.2.1 0, 512, .inl a_least)), (q 55, .inl (E.2.1 0, 4, .inl u_48)), (q 54, .inl (E.2.1 0, 7, .inl u_49)), (q 53, .inl (E.2.1 0, 7, .inl u_50))]) hP hD [0, 1, 2, 3, 4] [] rfl rfl (by decide) (by decide) hk1 hFc hP1 hD1
    generalize H1 = H at hP hS ⊢
    have hP : va_P E.1 vwCl [(h0, .inr (12, mG q i_taped i_size i_sort i_what i_at i_end i_worth i_faultKind i_faultPlace i_got i_worked (nI dl) i_isPlanned u_46 u_47)), (q 51, .inl (E.2.1 0, 512, .inl a_least)), (q 55, .inl (E.2.1 0, 4, .inl u_48)), (q 54, .inl (E.2.1 0, 7, .inl u_49)), (q 53, .inl (E.2.1 0, 7, .inl u_50))] H := hP
    have hD : va_D A [(h0, .inr (12, mG q i_taped i_size i_sort i_what i_at i_end i_worth i_faultKind i_faultPlace i_got i_worked (nI dl) i_isPlanned u_46 u_47)), (q 51, .inl (E.2.1 0, 512, .inl a_least)), (q 55, .inl (E.2.1 0, 4, .inl u_48)), (q 54, .inl (E.2.1 0, 7, .inl u_49)), (q 53, .inl (E.2.1 0, 7, .inl u_50))] := hD
    refine lv_aload_n hx hb dX12_give_203 rfl (lv_at hl 1 rfl) ?_
    refine va_get (D := E.1) (ci := 12) (v := .ref (q 55)) (C := RX12) (T := TX12) (N := 59) hx hb hts inX12 hown hK hP 0 rfl rfl 55 (by decide) fl142 (fun _ h9 => h9) rfl dX12_give_204 ?_
    refine lv_iload_n hx hb dX12_give_207 rfl (lv_at hl 0 rfl) ?_
    refine lv_dup2_11 hx hb dX12_give_208 rfl rfl ?_
    refine va_iald hx hb hK hP 2 0 rfl rfl (show vp_in 1 4 from by unfold vp_in; decide) dX12_give_209 ?_
    refine lv_topi (fun x_54 ex_54 => ?_)
    have hv_55 : inR x_54 0 127 = true := by rw [ex_54]; exact hf_51 _ (vin_cl (show vp_in 1 4 from by unfold vp_in; decide))
    obtain ⟨w_56, hw_57, ew_58⟩ := inR_nI (n := 127) (by decide) hv_55
    subst ew_58
    refine lv_iconst (v := 1) hx hb dX12_give_210 (by decide) ?_
    refine lv_iload_n hx hb dX12_give_211 rfl (lv_at hl 2 rfl) ?_
    refine lv_ishl hx hb dX12_give_212 ?_
    refine lv_topi (fun x_59 ex_59 => ?_)
    obtain rfl : x_59 = 1 := ex_59.trans (by decide +kernel)
    refine lv_iconst (v := (-1)) hx hb dX12_give_213 (by decide) ?_
    refine lv_ixor hx hb dX12_give_214 ?_
    refine lv_topi (fun x_60 ex_60 => ?_)
    obtain rfl : x_60 = (-2) := ex_60.trans (by decide +kernel)
    refine lv_iand hx hb dX12_give_215 ?_
    refine lv_topi (fun x_61 ex_61 => ?_)
    refine va_iast hx hb hK hP hD hS 2 0 rfl rfl (show vp_in 1 4 from by unfold vp_in; decide) dX12_give_216 (fun H locs hP hD hS => ?_)
    have hP : va_P E.1 vwCl [(h0, .inr (12, mG q i_taped i_size i_sort i_what i_at i_end i_worth i_faultKind i_faultPlace i_got i_worked (nI dl) i_isPlanned u_46 u_47)), (q 51, .inl (E.2.1 0, 512, .inl a_least)), (q 55, .inl (E.2.1 0, 4, .inl (upd u_48 (Int32.toNatClampNeg 1) x_61))), (q 54, .inl (E.2.1 0, 7, .inl u_49)), (q 53, .inl (E.2.1 0, 7, .inl u_50))] H := hP
    have hD : va_D A [(h0, .inr (12, mG q i_taped i_size i_sort i_what i_at i_end i_worth i_faultKind i_faultPlace i_got i_worked (nI dl) i_isPlanned u_46 u_47)), (q 51, .inl (E.2.1 0, 512, .inl a_least)), (q 55, .inl (E.2.1 0, 4, .inl (upd u_48 (Int32.toNatClampNeg 1) x_61))), (q 54, .inl (E.2.1 0, 7, .inl u_49)), (q 53, .inl (E.2.1 0, 7, .inl u_50))] := hD
    obtain ⟨f_62, ef_62⟩ : ∃ g : Nat → Int32, g = upd u_48 (Int32.toNatClampNeg 1) x_61 := ⟨_, rfl⟩
    rw [← ef_62] at hP hD
    have hI_63 : ∀ k : Nat, k < 4 → inR (f_62 k) 0 127 = true := by rw [ef_62]; exact all_upd (P := fun z => inR z 0 127 = true) hf_51 (by rw [ex_61]; exact and_lt7 _ (by omega) 0 (by decide))
    have hb1 : ∀ i : Nat, i < 4 → f_62 i = a_sets i := gback_of (u := u_48) (x := x_61) (y := nI w_56) (z := (-2)) (by decide) (by decide) ⟨gp, hSt⟩ hp1 hf_52 (ef_62.trans (by rw [show Int32.toNatClampNeg 1 = 1 from by decide])) ex_61 (ex_54.trans (by rw [show Int32.toNatClampNeg 1 = 1 from by decide])) (by decide)
    refine lv_iinc (v := 2) (lv' := [(2, .int 2), (0, .ref h0), (1, .int 0)]) hx hb dX12_give_217 hl (k := 0) rfl (by decide) (by decide) rfl (fun ls hl => ?_)
    refine lv_goto (tgt := 172) hx hb dX12_give_220 (by decide) ?_
    refine lv_iload_n hx hb dX12_give_172 rfl (lv_at hl 0 rfl) ?_
    refine lv_iconst (v := 4) hx hb dX12_give_173 (by decide) ?_
    refine lv_icmp_ge (tgt := 223) hx hb dX12_give_174 (by decide) (fun c9 => absurd c9 (by decide)) (fun _ => ?_)
    refine lv_aload_n hx hb dX12_give_177 rfl (lv_at hl 1 rfl) ?_
    refine va_get (D := E.1) (ci := 12) (v := .ref (q 53)) (C := RX12) (T := TX12) (N := 59) hx hb hts inX12 hown hK hP 0 rfl rfl 53 (by decide) fl136 (fun _ h9 => h9) rfl dX12_give_178 ?_
    refine lv_iload_n hx hb dX12_give_181 rfl (lv_at hl 2 rfl) ?_
    refine lv_iload_n hx hb dX12_give_182 rfl (lv_at hl 0 rfl) ?_
    refine va_iast hx hb hK hP hD hS 4 0 rfl rfl (show vp_in 0 7 from by unfold vp_in; decide) dX12_give_183 (fun H locs hP hD hS => ?_)
    have hP : va_P E.1 vwCl [(h0, .inr (12, mG q i_taped i_size i_sort i_what i_at i_end i_worth i_faultKind i_faultPlace i_got i_worked (nI dl) i_isPlanned u_46 u_47)), (q 51, .inl (E.2.1 0, 512, .inl a_least)), (q 55, .inl (E.2.1 0, 4, .inl f_62)), (q 54, .inl (E.2.1 0, 7, .inl u_49)), (q 53, .inl (E.2.1 0, 7, .inl (upd u_50 (Int32.toNatClampNeg 0) 2)))] H := hP
    have hD : va_D A [(h0, .inr (12, mG q i_taped i_size i_sort i_what i_at i_end i_worth i_faultKind i_faultPlace i_got i_worked (nI dl) i_isPlanned u_46 u_47)), (q 51, .inl (E.2.1 0, 512, .inl a_least)), (q 55, .inl (E.2.1 0, 4, .inl f_62)), (q 54, .inl (E.2.1 0, 7, .inl u_49)), (q 53, .inl (E.2.1 0, 7, .inl (upd u_50 (Int32.toNatClampNeg 0) 2)))] := hD
    obtain ⟨f_64, ef_64⟩ : ∃ g : Nat → Int32, g = upd u_50 (Int32.toNatClampNeg 0) 2 := ⟨_, rfl⟩
    rw [← ef_64] at hP hD
    refine lv_aload_n hx hb dX12_give_184 rfl (lv_at hl 1 rfl) ?_
    refine va_get (D := E.1) (ci := 12) (v := .ref (q 55)) (C := RX12) (T := TX12) (N := 59) hx hb hts inX12 hown hK hP 0 rfl rfl 55 (by decide) fl142 (fun _ h9 => h9) rfl dX12_give_185 ?_
    refine lv_iload_n hx hb dX12_give_188 rfl (lv_at hl 0 rfl) ?_
    refine lv_dup2_11 hx hb dX12_give_189 rfl rfl ?_
    refine va_iald hx hb hK hP 2 0 rfl rfl (show vp_in 2 4 from by unfold vp_in; decide) dX12_give_190 ?_
    refine lv_topi (fun x_65 ex_65 => ?_)
    have hv_66 : inR x_65 0 127 = true := by rw [ex_65]; exact hI_63 _ (vin_cl (show vp_in 2 4 from by unfold vp_in; decide))
    obtain ⟨w_67, hw_68, ew_69⟩ := inR_nI (n := 127) (by decide) hv_66
    subst ew_69
    refine lv_iconst (v := 1) hx hb dX12_give_191 (by decide) ?_
    refine lv_iload_n hx hb dX12_give_192 rfl (lv_at hl 2 rfl) ?_
    refine lv_ishl hx hb dX12_give_193 ?_
    refine lv_topi (fun x_70 ex_70 => ?_)
    obtain rfl : x_70 = 1 := ex_70.trans (by decide +kernel)
    refine lv_ior hx hb dX12_give_194 ?_
    refine lv_topi (fun x_71 ex_71 => ?_)
    refine va_iast hx hb hK hP hD hS 2 0 rfl rfl (show vp_in 2 4 from by unfold vp_in; decide) dX12_give_195 (fun H locs hP hD hS => ?_)
    have hP : va_P E.1 vwCl [(h0, .inr (12, mG q i_taped i_size i_sort i_what i_at i_end i_worth i_faultKind i_faultPlace i_got i_worked (nI dl) i_isPlanned u_46 u_47)), (q 51, .inl (E.2.1 0, 512, .inl a_least)), (q 55, .inl (E.2.1 0, 4, .inl (upd f_62 (Int32.toNatClampNeg 2) x_71))), (q 54, .inl (E.2.1 0, 7, .inl u_49)), (q 53, .inl (E.2.1 0, 7, .inl f_64))] H := hP
    have hD : va_D A [(h0, .inr (12, mG q i_taped i_size i_sort i_what i_at i_end i_worth i_faultKind i_faultPlace i_got i_worked (nI dl) i_isPlanned u_46 u_47)), (q 51, .inl (E.2.1 0, 512, .inl a_least)), (q 55, .inl (E.2.1 0, 4, .inl (upd f_62 (Int32.toNatClampNeg 2) x_71))), (q 54, .inl (E.2.1 0, 7, .inl u_49)), (q 53, .inl (E.2.1 0, 7, .inl f_64))] := hD
    obtain ⟨f_72, ef_72⟩ : ∃ g : Nat → Int32, g = upd f_62 (Int32.toNatClampNeg 2) x_71 := ⟨_, rfl⟩
    rw [← ef_72] at hP hD
    have hI_73 : ∀ k : Nat, k < 4 → inR (f_72 k) 0 127 = true := by rw [ef_72]; exact all_upd (P := fun z => inR z 0 127 = true) hI_63 (by rw [ex_71]; exact or_lt7 _ (by omega) 0 (by decide))
    refine lv_aload_n hx hb dX12_give_196 rfl (lv_at hl 1 rfl) ?_
    refine lv_iload_n hx hb dX12_give_197 rfl (lv_at hl 2 rfl) ?_
    refine lv_iconst (v := 1) hx hb dX12_give_198 (by decide) ?_
    refine lv_iadd hx hb dX12_give_199 ?_
    refine lv_topi (fun x_74 ex_74 => ?_)
    obtain rfl : x_74 = 1 := ex_74.trans (by decide +kernel)
    have hp2 : ∀ i : Nat, i < 4 → f_72 i = put a_sets 2 0 i := put_of (prev := f_62) (x := x_71) (y := nI w_67) (z := 1) hb1 (by decide) (ef_72.trans (by rw [show Int32.toNatClampNeg 2 = 2 from by decide])) ex_71 (ex_65.trans (by rw [show Int32.toNatClampNeg 2 = 2 from by decide])) (by decide)
    have hv2 : ∀ k : Nat, k < 0 + 1 → f_64 k = gI (pg gp 0 2 k) := gv_put (cur := u_50) (gv_cur (gv_cur (fun k hk => rfl) (ef_2.trans (by rw [show Int32.toNatClampNeg 0 = 0 from by decide])) hf_22) (ef_33.trans (by rw [show Int32.toNatClampNeg 0 = 0 from by decide])) hf_53) hGv (ef_64.trans (by rw [show Int32.toNatClampNeg 0 = 0 from by decide])) (by decide)
    have hPc := hP.sub (ws' := [(h0, .inr (12, mG q i_taped i_size i_sort i_what i_at i_end i_worth i_faultKind i_faultPlace i_got i_worked (nI dl) i_isPlanned u_46 u_47)), (q 51, .inl (E.2.1 0, 512, .inl a_least)), (q 55, .inl (E.2.1 0, 4, .inl f_72)), (q 54, .inl (E.2.1 0, 7, .inl u_49)), (q 53, .inl (E.2.1 0, 7, .inl f_64))]) [0, 1, 2, 3, 4] rfl
    have hDc := hD.sub (ws' := [(h0, .inr (12, mG q i_taped i_size i_sort i_what i_at i_end i_worth i_faultKind i_faultPlace i_got i_worked (nI dl) i_isPlanned u_46 u_47)), (q 51, .inl (E.2.1 0, 512, .inl a_least)), (q 55, .inl (E.2.1 0, 4, .inl f_72)), (q 54, .inl (E.2.1 0, 7, .inl u_49)), (q 53, .inl (E.2.1 0, 7, .inl f_64))]) [0, 1, 2, 3, 4] (by decide) rfl
    have hFc := va_free (wc := [(h0, .inr (12, mG q i_taped i_size i_sort i_what i_at i_end i_worth i_faultKind i_faultPlace i_got i_worked (nI dl) i_isPlanned u_46 u_47)), (q 51, .inl (E.2.1 0, 512, .inl a_least)), (q 55, .inl (E.2.1 0, 4, .inl f_72)), (q 54, .inl (E.2.1 0, 7, .inl u_49)), (q 53, .inl (E.2.1 0, 7, .inl f_64))]) hD hS hA [0, 1, 2, 3, 4] rfl
    refine va_callv (va_runV (As := [.int 1]) (rest := []) ⟨hx, hb, hml, hown, hts⟩ (c_X12_give1 l E h0 q i_taped i_size i_sort i_what i_at i_end i_worth i_faultKind i_faultPlace i_got i_worked i_isPlanned u_46 u_47 dl FF CC (pg gp 0 2) a_least f_72 u_49 f_64 H.size hdl hd2 (pg_le hp (by decide)) (st_put hSt hp2) hv2 (BG_M M_s hw_45) hKm hCb hI_73) (cwV 1 hts gX12_give_X12_give rfl rfl rfl hdV_X12_give ⟨Nat.le_of_ble_eq_true rfl, Nat.le_of_ble_eq_true rfl⟩) ⟨pcW_blind, va_recv hK hPc (ci := 12) (q0 := 0) rfl rfl, (pcW_pre hPc hkn hDc hst hS hFc)⟩ rfl rfl hl.1 rfl (lv_room (Nat.le_of_ble_eq_true rfl)) dX12_give_200 ⟨Nat.le_of_ble_eq_true rfl, Nat.le_of_ble_eq_true rfl⟩) hS (fun q _ h => hFc q h) hFc (fun u t H1 locs ht hvm hw_76 hB hz1 hk1 hS => ?_)
    obtain ⟨u_77, u_78, u_79, u_80, u_81⟩ := u
    obtain ⟨hf_82, hf_83, hf_84, hP1, hD1⟩ := hB
    rw [ht] at hP1
    try dsimp only at hw_76
    obtain ⟨hP, hD⟩ := va_join (wr := []) (w1 := [(h0, .inr (12, mG q i_taped i_size i_sort i_what i_at i_end i_worth i_faultKind i_faultPlace i_got i_worked (nI dl) i_isPlanned u_77 u_78)), (q 51, .inl (E.2.1 0, 512, .inl a_least)), (q 55, .inl (E.2.1 0, 4, .inl u_79)), (q 54, .inl (E.2.1 0, 7, .inl u_80)), (q 53, .inl (E.2.1 0, 7, .inl u_81))]) hP hD [0, 1, 2, 3, 4] [] rfl rfl (by decide) (by decide) hk1 hFc hP1 hD1
    generalize H1 = H at hP hS ⊢
    have hP : va_P E.1 vwCl [(h0, .inr (12, mG q i_taped i_size i_sort i_what i_at i_end i_worth i_faultKind i_faultPlace i_got i_worked (nI dl) i_isPlanned u_77 u_78)), (q 51, .inl (E.2.1 0, 512, .inl a_least)), (q 55, .inl (E.2.1 0, 4, .inl u_79)), (q 54, .inl (E.2.1 0, 7, .inl u_80)), (q 53, .inl (E.2.1 0, 7, .inl u_81))] H := hP
    have hD : va_D A [(h0, .inr (12, mG q i_taped i_size i_sort i_what i_at i_end i_worth i_faultKind i_faultPlace i_got i_worked (nI dl) i_isPlanned u_77 u_78)), (q 51, .inl (E.2.1 0, 512, .inl a_least)), (q 55, .inl (E.2.1 0, 4, .inl u_79)), (q 54, .inl (E.2.1 0, 7, .inl u_80)), (q 53, .inl (E.2.1 0, 7, .inl u_81))] := hD
    refine lv_aload_n hx hb dX12_give_203 rfl (lv_at hl 1 rfl) ?_
    refine va_get (D := E.1) (ci := 12) (v := .ref (q 55)) (C := RX12) (T := TX12) (N := 59) hx hb hts inX12 hown hK hP 0 rfl rfl 55 (by decide) fl142 (fun _ h9 => h9) rfl dX12_give_204 ?_
    refine lv_iload_n hx hb dX12_give_207 rfl (lv_at hl 0 rfl) ?_
    refine lv_dup2_11 hx hb dX12_give_208 rfl rfl ?_
    refine va_iald hx hb hK hP 2 0 rfl rfl (show vp_in 2 4 from by unfold vp_in; decide) dX12_give_209 ?_
    refine lv_topi (fun x_85 ex_85 => ?_)
    have hv_86 : inR x_85 0 127 = true := by rw [ex_85]; exact hf_82 _ (vin_cl (show vp_in 2 4 from by unfold vp_in; decide))
    obtain ⟨w_87, hw_88, ew_89⟩ := inR_nI (n := 127) (by decide) hv_86
    subst ew_89
    refine lv_iconst (v := 1) hx hb dX12_give_210 (by decide) ?_
    refine lv_iload_n hx hb dX12_give_211 rfl (lv_at hl 2 rfl) ?_
    refine lv_ishl hx hb dX12_give_212 ?_
    refine lv_topi (fun x_90 ex_90 => ?_)
    obtain rfl : x_90 = 1 := ex_90.trans (by decide +kernel)
    refine lv_iconst (v := (-1)) hx hb dX12_give_213 (by decide) ?_
    refine lv_ixor hx hb dX12_give_214 ?_
    refine lv_topi (fun x_91 ex_91 => ?_)
    obtain rfl : x_91 = (-2) := ex_91.trans (by decide +kernel)
    refine lv_iand hx hb dX12_give_215 ?_
    refine lv_topi (fun x_92 ex_92 => ?_)
    refine va_iast hx hb hK hP hD hS 2 0 rfl rfl (show vp_in 2 4 from by unfold vp_in; decide) dX12_give_216 (fun H locs hP hD hS => ?_)
    have hP : va_P E.1 vwCl [(h0, .inr (12, mG q i_taped i_size i_sort i_what i_at i_end i_worth i_faultKind i_faultPlace i_got i_worked (nI dl) i_isPlanned u_77 u_78)), (q 51, .inl (E.2.1 0, 512, .inl a_least)), (q 55, .inl (E.2.1 0, 4, .inl (upd u_79 (Int32.toNatClampNeg 2) x_92))), (q 54, .inl (E.2.1 0, 7, .inl u_80)), (q 53, .inl (E.2.1 0, 7, .inl u_81))] H := hP
    have hD : va_D A [(h0, .inr (12, mG q i_taped i_size i_sort i_what i_at i_end i_worth i_faultKind i_faultPlace i_got i_worked (nI dl) i_isPlanned u_77 u_78)), (q 51, .inl (E.2.1 0, 512, .inl a_least)), (q 55, .inl (E.2.1 0, 4, .inl (upd u_79 (Int32.toNatClampNeg 2) x_92))), (q 54, .inl (E.2.1 0, 7, .inl u_80)), (q 53, .inl (E.2.1 0, 7, .inl u_81))] := hD
    obtain ⟨f_93, ef_93⟩ : ∃ g : Nat → Int32, g = upd u_79 (Int32.toNatClampNeg 2) x_92 := ⟨_, rfl⟩
    rw [← ef_93] at hP hD
    have hI_94 : ∀ k : Nat, k < 4 → inR (f_93 k) 0 127 = true := by rw [ef_93]; exact all_upd (P := fun z => inR z 0 127 = true) hf_82 (by rw [ex_92]; exact and_lt7 _ (by omega) 0 (by decide))
    have hb2 : ∀ i : Nat, i < 4 → f_93 i = a_sets i := gback_of (u := u_79) (x := x_92) (y := nI w_87) (z := (-2)) (by decide) (by decide) ⟨gp, hSt⟩ hp2 hf_83 (ef_93.trans (by rw [show Int32.toNatClampNeg 2 = 2 from by decide])) ex_92 (ex_85.trans (by rw [show Int32.toNatClampNeg 2 = 2 from by decide])) (by decide)
    refine lv_iinc (v := 3) (lv' := [(2, .int 3), (0, .ref h0), (1, .int 0)]) hx hb dX12_give_217 hl (k := 0) rfl (by decide) (by decide) rfl (fun ls hl => ?_)
    refine lv_goto (tgt := 172) hx hb dX12_give_220 (by decide) ?_
    refine lv_iload_n hx hb dX12_give_172 rfl (lv_at hl 0 rfl) ?_
    refine lv_iconst (v := 4) hx hb dX12_give_173 (by decide) ?_
    refine lv_icmp_ge (tgt := 223) hx hb dX12_give_174 (by decide) (fun c9 => absurd c9 (by decide)) (fun _ => ?_)
    refine lv_aload_n hx hb dX12_give_177 rfl (lv_at hl 1 rfl) ?_
    refine va_get (D := E.1) (ci := 12) (v := .ref (q 53)) (C := RX12) (T := TX12) (N := 59) hx hb hts inX12 hown hK hP 0 rfl rfl 53 (by decide) fl136 (fun _ h9 => h9) rfl dX12_give_178 ?_
    refine lv_iload_n hx hb dX12_give_181 rfl (lv_at hl 2 rfl) ?_
    refine lv_iload_n hx hb dX12_give_182 rfl (lv_at hl 0 rfl) ?_
    refine va_iast hx hb hK hP hD hS 4 0 rfl rfl (show vp_in 0 7 from by unfold vp_in; decide) dX12_give_183 (fun H locs hP hD hS => ?_)
    have hP : va_P E.1 vwCl [(h0, .inr (12, mG q i_taped i_size i_sort i_what i_at i_end i_worth i_faultKind i_faultPlace i_got i_worked (nI dl) i_isPlanned u_77 u_78)), (q 51, .inl (E.2.1 0, 512, .inl a_least)), (q 55, .inl (E.2.1 0, 4, .inl f_93)), (q 54, .inl (E.2.1 0, 7, .inl u_80)), (q 53, .inl (E.2.1 0, 7, .inl (upd u_81 (Int32.toNatClampNeg 0) 3)))] H := hP
    have hD : va_D A [(h0, .inr (12, mG q i_taped i_size i_sort i_what i_at i_end i_worth i_faultKind i_faultPlace i_got i_worked (nI dl) i_isPlanned u_77 u_78)), (q 51, .inl (E.2.1 0, 512, .inl a_least)), (q 55, .inl (E.2.1 0, 4, .inl f_93)), (q 54, .inl (E.2.1 0, 7, .inl u_80)), (q 53, .inl (E.2.1 0, 7, .inl (upd u_81 (Int32.toNatClampNeg 0) 3)))] := hD
    obtain ⟨f_95, ef_95⟩ : ∃ g : Nat → Int32, g = upd u_81 (Int32.toNatClampNeg 0) 3 := ⟨_, rfl⟩
    rw [← ef_95] at hP hD
    refine lv_aload_n hx hb dX12_give_184 rfl (lv_at hl 1 rfl) ?_
    refine va_get (D := E.1) (ci := 12) (v := .ref (q 55)) (C := RX12) (T := TX12) (N := 59) hx hb hts inX12 hown hK hP 0 rfl rfl 55 (by decide) fl142 (fun _ h9 => h9) rfl dX12_give_185 ?_
    refine lv_iload_n hx hb dX12_give_188 rfl (lv_at hl 0 rfl) ?_
    refine lv_dup2_11 hx hb dX12_give_189 rfl rfl ?_
    refine va_iald hx hb hK hP 2 0 rfl rfl (show vp_in 3 4 from by unfold vp_in; decide) dX12_give_190 ?_
    refine lv_topi (fun x_96 ex_96 => ?_)
    have hv_97 : inR x_96 0 127 = true := by rw [ex_96]; exact hI_94 _ (vin_cl (show vp_in 3 4 from by unfold vp_in; decide))
    obtain ⟨w_98, hw_99, ew_100⟩ := inR_nI (n := 127) (by decide) hv_97
    subst ew_100
    refine lv_iconst (v := 1) hx hb dX12_give_191 (by decide) ?_
    refine lv_iload_n hx hb dX12_give_192 rfl (lv_at hl 2 rfl) ?_
    refine lv_ishl hx hb dX12_give_193 ?_
    refine lv_topi (fun x_101 ex_101 => ?_)
    obtain rfl : x_101 = 1 := ex_101.trans (by decide +kernel)
    refine lv_ior hx hb dX12_give_194 ?_
    refine lv_topi (fun x_102 ex_102 => ?_)
    refine va_iast hx hb hK hP hD hS 2 0 rfl rfl (show vp_in 3 4 from by unfold vp_in; decide) dX12_give_195 (fun H locs hP hD hS => ?_)
    have hP : va_P E.1 vwCl [(h0, .inr (12, mG q i_taped i_size i_sort i_what i_at i_end i_worth i_faultKind i_faultPlace i_got i_worked (nI dl) i_isPlanned u_77 u_78)), (q 51, .inl (E.2.1 0, 512, .inl a_least)), (q 55, .inl (E.2.1 0, 4, .inl (upd f_93 (Int32.toNatClampNeg 3) x_102))), (q 54, .inl (E.2.1 0, 7, .inl u_80)), (q 53, .inl (E.2.1 0, 7, .inl f_95))] H := hP
    have hD : va_D A [(h0, .inr (12, mG q i_taped i_size i_sort i_what i_at i_end i_worth i_faultKind i_faultPlace i_got i_worked (nI dl) i_isPlanned u_77 u_78)), (q 51, .inl (E.2.1 0, 512, .inl a_least)), (q 55, .inl (E.2.1 0, 4, .inl (upd f_93 (Int32.toNatClampNeg 3) x_102))), (q 54, .inl (E.2.1 0, 7, .inl u_80)), (q 53, .inl (E.2.1 0, 7, .inl f_95))] := hD
    obtain ⟨f_103, ef_103⟩ : ∃ g : Nat → Int32, g = upd f_93 (Int32.toNatClampNeg 3) x_102 := ⟨_, rfl⟩
    rw [← ef_103] at hP hD
    have hI_104 : ∀ k : Nat, k < 4 → inR (f_103 k) 0 127 = true := by rw [ef_103]; exact all_upd (P := fun z => inR z 0 127 = true) hI_94 (by rw [ex_102]; exact or_lt7 _ (by omega) 0 (by decide))
    refine lv_aload_n hx hb dX12_give_196 rfl (lv_at hl 1 rfl) ?_
    refine lv_iload_n hx hb dX12_give_197 rfl (lv_at hl 2 rfl) ?_
    refine lv_iconst (v := 1) hx hb dX12_give_198 (by decide) ?_
    refine lv_iadd hx hb dX12_give_199 ?_
    refine lv_topi (fun x_105 ex_105 => ?_)
    obtain rfl : x_105 = 1 := ex_105.trans (by decide +kernel)
    have hp3 : ∀ i : Nat, i < 4 → f_103 i = put a_sets 3 0 i := put_of (prev := f_93) (x := x_102) (y := nI w_98) (z := 1) hb2 (by decide) (ef_103.trans (by rw [show Int32.toNatClampNeg 3 = 3 from by decide])) ex_102 (ex_96.trans (by rw [show Int32.toNatClampNeg 3 = 3 from by decide])) (by decide)
    have hv3 : ∀ k : Nat, k < 0 + 1 → f_95 k = gI (pg gp 0 3 k) := gv_put (cur := u_81) (gv_cur (gv_cur (gv_cur (fun k hk => rfl) (ef_2.trans (by rw [show Int32.toNatClampNeg 0 = 0 from by decide])) hf_22) (ef_33.trans (by rw [show Int32.toNatClampNeg 0 = 0 from by decide])) hf_53) (ef_64.trans (by rw [show Int32.toNatClampNeg 0 = 0 from by decide])) hf_84) hGv (ef_95.trans (by rw [show Int32.toNatClampNeg 0 = 0 from by decide])) (by decide)
    have hPc := hP.sub (ws' := [(h0, .inr (12, mG q i_taped i_size i_sort i_what i_at i_end i_worth i_faultKind i_faultPlace i_got i_worked (nI dl) i_isPlanned u_77 u_78)), (q 51, .inl (E.2.1 0, 512, .inl a_least)), (q 55, .inl (E.2.1 0, 4, .inl f_103)), (q 54, .inl (E.2.1 0, 7, .inl u_80)), (q 53, .inl (E.2.1 0, 7, .inl f_95))]) [0, 1, 2, 3, 4] rfl
    have hDc := hD.sub (ws' := [(h0, .inr (12, mG q i_taped i_size i_sort i_what i_at i_end i_worth i_faultKind i_faultPlace i_got i_worked (nI dl) i_isPlanned u_77 u_78)), (q 51, .inl (E.2.1 0, 512, .inl a_least)), (q 55, .inl (E.2.1 0, 4, .inl f_103)), (q 54, .inl (E.2.1 0, 7, .inl u_80)), (q 53, .inl (E.2.1 0, 7, .inl f_95))]) [0, 1, 2, 3, 4] (by decide) rfl
    have hFc := va_free (wc := [(h0, .inr (12, mG q i_taped i_size i_sort i_what i_at i_end i_worth i_faultKind i_faultPlace i_got i_worked (nI dl) i_isPlanned u_77 u_78)), (q 51, .inl (E.2.1 0, 512, .inl a_least)), (q 55, .inl (E.2.1 0, 4, .inl f_103)), (q 54, .inl (E.2.1 0, 7, .inl u_80)), (q 53, .inl (E.2.1 0, 7, .inl f_95))]) hD hS hA [0, 1, 2, 3, 4] rfl
    refine va_callv (va_runV (As := [.int 1]) (rest := []) ⟨hx, hb, hml, hown, hts⟩ (c_X12_give1 l E h0 q i_taped i_size i_sort i_what i_at i_end i_worth i_faultKind i_faultPlace i_got i_worked i_isPlanned u_77 u_78 dl FF CC (pg gp 0 3) a_least f_103 u_80 f_95 H.size hdl hd2 (pg_le hp (by decide)) (st_put hSt hp3) hv3 (BG_M M_s hw_76) hKm hCb hI_104) (cwV 1 hts gX12_give_X12_give rfl rfl rfl hdV_X12_give ⟨Nat.le_of_ble_eq_true rfl, Nat.le_of_ble_eq_true rfl⟩) ⟨pcW_blind, va_recv hK hPc (ci := 12) (q0 := 0) rfl rfl, (pcW_pre hPc hkn hDc hst hS hFc)⟩ rfl rfl hl.1 rfl (lv_room (Nat.le_of_ble_eq_true rfl)) dX12_give_200 ⟨Nat.le_of_ble_eq_true rfl, Nat.le_of_ble_eq_true rfl⟩) hS (fun q _ h => hFc q h) hFc (fun u t H1 locs ht hvm hw_107 hB hz1 hk1 hS => ?_)
    obtain ⟨u_108, u_109, u_110, u_111, u_112⟩ := u
    obtain ⟨hf_113, hf_114, hf_115, hP1, hD1⟩ := hB
    rw [ht] at hP1
    try dsimp only at hw_107
    obtain ⟨hP, hD⟩ := va_join (wr := []) (w1 := [(h0, .inr (12, mG q i_taped i_size i_sort i_what i_at i_end i_worth i_faultKind i_faultPlace i_got i_worked (nI dl) i_isPlanned u_108 u_109)), (q 51, .inl (E.2.1 0, 512, .inl a_least)), (q 55, .inl (E.2.1 0, 4, .inl u_110)), (q 54, .inl (E.2.1 0, 7, .inl u_111)), (q 53, .inl (E.2.1 0, 7, .inl u_112))]) hP hD [0, 1, 2, 3, 4] [] rfl rfl (by decide) (by decide) hk1 hFc hP1 hD1
    generalize H1 = H at hP hS ⊢
    have hP : va_P E.1 vwCl [(h0, .inr (12, mG q i_taped i_size i_sort i_what i_at i_end i_worth i_faultKind i_faultPlace i_got i_worked (nI dl) i_isPlanned u_108 u_109)), (q 51, .inl (E.2.1 0, 512, .inl a_least)), (q 55, .inl (E.2.1 0, 4, .inl u_110)), (q 54, .inl (E.2.1 0, 7, .inl u_111)), (q 53, .inl (E.2.1 0, 7, .inl u_112))] H := hP
    have hD : va_D A [(h0, .inr (12, mG q i_taped i_size i_sort i_what i_at i_end i_worth i_faultKind i_faultPlace i_got i_worked (nI dl) i_isPlanned u_108 u_109)), (q 51, .inl (E.2.1 0, 512, .inl a_least)), (q 55, .inl (E.2.1 0, 4, .inl u_110)), (q 54, .inl (E.2.1 0, 7, .inl u_111)), (q 53, .inl (E.2.1 0, 7, .inl u_112))] := hD
    refine lv_aload_n hx hb dX12_give_203 rfl (lv_at hl 1 rfl) ?_
    refine va_get (D := E.1) (ci := 12) (v := .ref (q 55)) (C := RX12) (T := TX12) (N := 59) hx hb hts inX12 hown hK hP 0 rfl rfl 55 (by decide) fl142 (fun _ h9 => h9) rfl dX12_give_204 ?_
    refine lv_iload_n hx hb dX12_give_207 rfl (lv_at hl 0 rfl) ?_
    refine lv_dup2_11 hx hb dX12_give_208 rfl rfl ?_
    refine va_iald hx hb hK hP 2 0 rfl rfl (show vp_in 3 4 from by unfold vp_in; decide) dX12_give_209 ?_
    refine lv_topi (fun x_116 ex_116 => ?_)
    have hv_117 : inR x_116 0 127 = true := by rw [ex_116]; exact hf_113 _ (vin_cl (show vp_in 3 4 from by unfold vp_in; decide))
    obtain ⟨w_118, hw_119, ew_120⟩ := inR_nI (n := 127) (by decide) hv_117
    subst ew_120
    refine lv_iconst (v := 1) hx hb dX12_give_210 (by decide) ?_
    refine lv_iload_n hx hb dX12_give_211 rfl (lv_at hl 2 rfl) ?_
    refine lv_ishl hx hb dX12_give_212 ?_
    refine lv_topi (fun x_121 ex_121 => ?_)
    obtain rfl : x_121 = 1 := ex_121.trans (by decide +kernel)
    refine lv_iconst (v := (-1)) hx hb dX12_give_213 (by decide) ?_
    refine lv_ixor hx hb dX12_give_214 ?_
    refine lv_topi (fun x_122 ex_122 => ?_)
    obtain rfl : x_122 = (-2) := ex_122.trans (by decide +kernel)
    refine lv_iand hx hb dX12_give_215 ?_
    refine lv_topi (fun x_123 ex_123 => ?_)
    refine va_iast hx hb hK hP hD hS 2 0 rfl rfl (show vp_in 3 4 from by unfold vp_in; decide) dX12_give_216 (fun H locs hP hD hS => ?_)
    have hP : va_P E.1 vwCl [(h0, .inr (12, mG q i_taped i_size i_sort i_what i_at i_end i_worth i_faultKind i_faultPlace i_got i_worked (nI dl) i_isPlanned u_108 u_109)), (q 51, .inl (E.2.1 0, 512, .inl a_least)), (q 55, .inl (E.2.1 0, 4, .inl (upd u_110 (Int32.toNatClampNeg 3) x_123))), (q 54, .inl (E.2.1 0, 7, .inl u_111)), (q 53, .inl (E.2.1 0, 7, .inl u_112))] H := hP
    have hD : va_D A [(h0, .inr (12, mG q i_taped i_size i_sort i_what i_at i_end i_worth i_faultKind i_faultPlace i_got i_worked (nI dl) i_isPlanned u_108 u_109)), (q 51, .inl (E.2.1 0, 512, .inl a_least)), (q 55, .inl (E.2.1 0, 4, .inl (upd u_110 (Int32.toNatClampNeg 3) x_123))), (q 54, .inl (E.2.1 0, 7, .inl u_111)), (q 53, .inl (E.2.1 0, 7, .inl u_112))] := hD
    obtain ⟨f_124, ef_124⟩ : ∃ g : Nat → Int32, g = upd u_110 (Int32.toNatClampNeg 3) x_123 := ⟨_, rfl⟩
    rw [← ef_124] at hP hD
    have hI_125 : ∀ k : Nat, k < 4 → inR (f_124 k) 0 127 = true := by rw [ef_124]; exact all_upd (P := fun z => inR z 0 127 = true) hf_113 (by rw [ex_123]; exact and_lt7 _ (by omega) 0 (by decide))
    have hb3 : ∀ i : Nat, i < 4 → f_124 i = a_sets i := gback_of (u := u_110) (x := x_123) (y := nI w_118) (z := (-2)) (by decide) (by decide) ⟨gp, hSt⟩ hp3 hf_114 (ef_124.trans (by rw [show Int32.toNatClampNeg 3 = 3 from by decide])) ex_123 (ex_116.trans (by rw [show Int32.toNatClampNeg 3 = 3 from by decide])) (by decide)
    refine lv_iinc (v := 4) (lv' := [(2, .int 4), (0, .ref h0), (1, .int 0)]) hx hb dX12_give_217 hl (k := 0) rfl (by decide) (by decide) rfl (fun ls hl => ?_)
    refine lv_goto (tgt := 172) hx hb dX12_give_220 (by decide) ?_
    refine lv_iload_n hx hb dX12_give_172 rfl (lv_at hl 0 rfl) ?_
    refine lv_iconst (v := 4) hx hb dX12_give_173 (by decide) ?_
    refine lv_icmp_ge (tgt := 223) hx hb dX12_give_174 (by decide) (fun _ => ?_) (fun c9 => absurd c9 (by decide))
    refine lv_aload_n hx hb dX12_give_223 rfl (lv_at hl 1 rfl) ?_
    refine va_get (D := E.1) (ci := 12) (v := .ref (q 53)) (C := RX12) (T := TX12) (N := 59) hx hb hts inX12 hown hK hP 0 rfl rfl 53 (by decide) fl136 (fun _ h9 => h9) rfl dX12_give_224 ?_
    refine lv_iload_n hx hb dX12_give_227 rfl (lv_at hl 2 rfl) ?_
    refine lv_iconst (v := (-1)) hx hb dX12_give_228 (by decide) ?_
    refine va_iast hx hb hK hP hD hS 4 0 rfl rfl (show vp_in 0 7 from by unfold vp_in; decide) dX12_give_229 (fun H locs hP hD hS => ?_)
    have hP : va_P E.1 vwCl [(h0, .inr (12, mG q i_taped i_size i_sort i_what i_at i_end i_worth i_faultKind i_faultPlace i_got i_worked (nI dl) i_isPlanned u_108 u_109)), (q 51, .inl (E.2.1 0, 512, .inl a_least)), (q 55, .inl (E.2.1 0, 4, .inl f_124)), (q 54, .inl (E.2.1 0, 7, .inl u_111)), (q 53, .inl (E.2.1 0, 7, .inl (upd u_112 (Int32.toNatClampNeg 0) (-1))))] H := hP
    have hD : va_D A [(h0, .inr (12, mG q i_taped i_size i_sort i_what i_at i_end i_worth i_faultKind i_faultPlace i_got i_worked (nI dl) i_isPlanned u_108 u_109)), (q 51, .inl (E.2.1 0, 512, .inl a_least)), (q 55, .inl (E.2.1 0, 4, .inl f_124)), (q 54, .inl (E.2.1 0, 7, .inl u_111)), (q 53, .inl (E.2.1 0, 7, .inl (upd u_112 (Int32.toNatClampNeg 0) (-1))))] := hD
    obtain ⟨f_126, ef_126⟩ : ∃ g : Nat → Int32, g = upd u_112 (Int32.toNatClampNeg 0) (-1) := ⟨_, rfl⟩
    rw [← ef_126] at hP hD
    refine lv_aload_n hx hb dX12_give_230 rfl (lv_at hl 1 rfl) ?_
    refine lv_iload_n hx hb dX12_give_231 rfl (lv_at hl 2 rfl) ?_
    refine lv_iconst (v := 1) hx hb dX12_give_232 (by decide) ?_
    refine lv_iadd hx hb dX12_give_233 ?_
    refine lv_topi (fun x_127 ex_127 => ?_)
    obtain rfl : x_127 = 1 := ex_127.trans (by decide +kernel)
    have hv4 : ∀ k : Nat, k < 0 + 1 → f_126 k = gI (pg gp 0 4 k) := gv_put (cur := u_112) (gv_cur (gv_cur (gv_cur (gv_cur (fun k hk => rfl) (ef_2.trans (by rw [show Int32.toNatClampNeg 0 = 0 from by decide])) hf_22) (ef_33.trans (by rw [show Int32.toNatClampNeg 0 = 0 from by decide])) hf_53) (ef_64.trans (by rw [show Int32.toNatClampNeg 0 = 0 from by decide])) hf_84) (ef_95.trans (by rw [show Int32.toNatClampNeg 0 = 0 from by decide])) hf_115) hGv (ef_126.trans (by rw [show Int32.toNatClampNeg 0 = 0 from by decide])) (by decide)
    have hPc := hP.sub (ws' := [(h0, .inr (12, mG q i_taped i_size i_sort i_what i_at i_end i_worth i_faultKind i_faultPlace i_got i_worked (nI dl) i_isPlanned u_108 u_109)), (q 51, .inl (E.2.1 0, 512, .inl a_least)), (q 55, .inl (E.2.1 0, 4, .inl f_124)), (q 54, .inl (E.2.1 0, 7, .inl u_111)), (q 53, .inl (E.2.1 0, 7, .inl f_126))]) [0, 1, 2, 3, 4] rfl
    have hDc := hD.sub (ws' := [(h0, .inr (12, mG q i_taped i_size i_sort i_what i_at i_end i_worth i_faultKind i_faultPlace i_got i_worked (nI dl) i_isPlanned u_108 u_109)), (q 51, .inl (E.2.1 0, 512, .inl a_least)), (q 55, .inl (E.2.1 0, 4, .inl f_124)), (q 54, .inl (E.2.1 0, 7, .inl u_111)), (q 53, .inl (E.2.1 0, 7, .inl f_126))]) [0, 1, 2, 3, 4] (by decide) rfl
    have hFc := va_free (wc := [(h0, .inr (12, mG q i_taped i_size i_sort i_what i_at i_end i_worth i_faultKind i_faultPlace i_got i_worked (nI dl) i_isPlanned u_108 u_109)), (q 51, .inl (E.2.1 0, 512, .inl a_least)), (q 55, .inl (E.2.1 0, 4, .inl f_124)), (q 54, .inl (E.2.1 0, 7, .inl u_111)), (q 53, .inl (E.2.1 0, 7, .inl f_126))]) hD hS hA [0, 1, 2, 3, 4] rfl
    refine va_callv (va_runV (As := [.int 1]) (rest := []) ⟨hx, hb, hml, hown, hts⟩ (c_X12_give1 l E h0 q i_taped i_size i_sort i_what i_at i_end i_worth i_faultKind i_faultPlace i_got i_worked i_isPlanned u_108 u_109 dl FF CC (pg gp 0 4) a_least f_124 u_111 f_126 H.size hdl hd2 (pg_le hp (by decide)) (st_none hSt hb3) hv4 (BG_M M_s hw_107) hKm hCb hI_125) (cwV 1 hts gX12_give_X12_give rfl rfl rfl hdV_X12_give ⟨Nat.le_of_ble_eq_true rfl, Nat.le_of_ble_eq_true rfl⟩) ⟨pcW_blind, va_recv hK hPc (ci := 12) (q0 := 0) rfl rfl, (pcW_pre hPc hkn hDc hst hS hFc)⟩ rfl rfl hl.1 rfl (lv_room (Nat.le_of_ble_eq_true rfl)) dX12_give_234 ⟨Nat.le_of_ble_eq_true rfl, Nat.le_of_ble_eq_true rfl⟩) hS (fun q _ h => hFc q h) hFc (fun u t H1 locs ht hvm hw_129 hB hz1 hk1 hS => ?_)
    obtain ⟨u_130, u_131, u_132, u_133, u_134⟩ := u
    obtain ⟨hf_135, hf_136, hf_137, hP1, hD1⟩ := hB
    rw [ht] at hP1
    try dsimp only at hw_129
    obtain ⟨hP, hD⟩ := va_join (wr := []) (w1 := [(h0, .inr (12, mG q i_taped i_size i_sort i_what i_at i_end i_worth i_faultKind i_faultPlace i_got i_worked (nI dl) i_isPlanned u_130 u_131)), (q 51, .inl (E.2.1 0, 512, .inl a_least)), (q 55, .inl (E.2.1 0, 4, .inl u_132)), (q 54, .inl (E.2.1 0, 7, .inl u_133)), (q 53, .inl (E.2.1 0, 7, .inl u_134))]) hP hD [0, 1, 2, 3, 4] [] rfl rfl (by decide) (by decide) hk1 hFc hP1 hD1
    generalize H1 = H at hP hS ⊢
    have hP : va_P E.1 vwCl [(h0, .inr (12, mG q i_taped i_size i_sort i_what i_at i_end i_worth i_faultKind i_faultPlace i_got i_worked (nI dl) i_isPlanned u_130 u_131)), (q 51, .inl (E.2.1 0, 512, .inl a_least)), (q 55, .inl (E.2.1 0, 4, .inl u_132)), (q 54, .inl (E.2.1 0, 7, .inl u_133)), (q 53, .inl (E.2.1 0, 7, .inl u_134))] H := hP
    have hD : va_D A [(h0, .inr (12, mG q i_taped i_size i_sort i_what i_at i_end i_worth i_faultKind i_faultPlace i_got i_worked (nI dl) i_isPlanned u_130 u_131)), (q 51, .inl (E.2.1 0, 512, .inl a_least)), (q 55, .inl (E.2.1 0, 4, .inl u_132)), (q 54, .inl (E.2.1 0, 7, .inl u_133)), (q 53, .inl (E.2.1 0, 7, .inl u_134))] := hD
    have hP9 := hP.sub (ws' := [(h0, .inr (12, mG q i_taped i_size i_sort i_what i_at i_end i_worth i_faultKind i_faultPlace i_got i_worked (nI dl) i_isPlanned u_130 u_131)), (q 51, .inl (E.2.1 0, 512, .inl a_least)), (q 55, .inl (E.2.1 0, 4, .inl u_132)), (q 54, .inl (E.2.1 0, 7, .inl u_133)), (q 53, .inl (E.2.1 0, 7, .inl u_134))]) [0, 1, 2, 3, 4] rfl
    have hD9 := hD.sub (ws' := [(h0, .inr (12, mG q i_taped i_size i_sort i_what i_at i_end i_worth i_faultKind i_faultPlace i_got i_worked (nI dl) i_isPlanned u_130 u_131)), (q 51, .inl (E.2.1 0, 512, .inl a_least)), (q 55, .inl (E.2.1 0, 4, .inl u_132)), (q 54, .inl (E.2.1 0, 7, .inl u_133)), (q 53, .inl (E.2.1 0, 7, .inl u_134))]) [0, 1, 2, 3, 4] (by decide) rfl
    exact W.vret hx hb hr (fun t ht hW => ⟨⟨(u_130, u_131, u_132, u_133, u_134), rfl, (BG_M (M_5 hd2) hw_129), hf_135, (fun i hi => (hf_136 i hi).trans (hb3 i hi)), (gv_cur (gv_cur (gv_cur (gv_cur (gv_cur (fun k hk => rfl) (ef_2.trans (by rw [show Int32.toNatClampNeg 0 = 0 from by decide])) hf_22) (ef_33.trans (by rw [show Int32.toNatClampNeg 0 = 0 from by decide])) hf_53) (ef_64.trans (by rw [show Int32.toNatClampNeg 0 = 0 from by decide])) hf_84) (ef_95.trans (by rw [show Int32.toNatClampNeg 0 = 0 from by decide])) hf_115) (ef_126.trans (by rw [show Int32.toNatClampNeg 0 = 0 from by decide])) hf_137), by rw [ht]; exact hP9, hD9⟩, hS.F ht⟩) hS.2.2 dX12_give_237
  · have hn9 : dl = 0 := ((nI_eq (a := 0) (by decide) (by omega)).mp c_1).symm
    have hB9 := BG_pre hn9 hBG
    have hp9 : ∀ k : Nat, k < dl → gp k ≤ 4 := fun k hk => hp k (by omega)
    refine lv_iconst (v := 0) hx hb dX12_give_8 (by decide) ?_
    refine lv_istore_n (lv' := [(2, .int 0), (0, .ref h0), (1, .int 0)]) hx hb dX12_give_9 rfl hl (by decide) rfl (fun ls hl => ?_)
    refine lv_iconst (v := 0) hx hb dX12_give_10 (by decide) ?_
    refine lv_istore_n (lv' := [(3, .int 0), (2, .int 0), (0, .ref h0), (1, .int 0)]) hx hb dX12_give_11 rfl hl (by decide) rfl (fun ls hl => ?_)
    refine lv_iconst (v := 0) hx hb dX12_give_12 (by decide) ?_
    refine lv_istore (lv' := [(4, .int 0), (3, .int 0), (2, .int 0), (0, .ref h0), (1, .int 0)]) hx hb dX12_give_13 hl (by decide) rfl (fun ls hl => ?_)
    refine lv_iload hx hb dX12_give_15 (lv_at hl 0 rfl) ?_
    refine lv_iconst (v := 4) hx hb dX12_give_17 (by decide) ?_
    refine lv_icmp_ge (tgt := 102) hx hb dX12_give_18 (by decide) (fun c9 => absurd c9 (by decide)) (fun _ => ?_)
    refine lv_aload_n hx hb dX12_give_21 rfl (lv_at hl 3 rfl) ?_
    refine va_get (D := E.1) (ci := 12) (v := .ref (q 51)) (C := RX12) (T := TX12) (N := 59) hx hb hts inX12 hown hK hP 0 rfl rfl 51 (by decide) fl130 (fun _ h9 => h9) rfl dX12_give_22 ?_
    refine lv_sipush (v := 128) hx hb dX12_give_25 (by decide) ?_
    refine lv_iload hx hb dX12_give_28 (lv_at hl 0 rfl) ?_
    refine lv_imul hx hb dX12_give_30 ?_
    refine lv_topi (fun x_138 ex_138 => ?_)
    obtain rfl : x_138 = 0 := ex_138.trans (by decide +kernel)
    refine lv_aload_n hx hb dX12_give_31 rfl (lv_at hl 3 rfl) ?_
    refine va_get (D := E.1) (ci := 12) (v := .ref (q 55)) (C := RX12) (T := TX12) (N := 59) hx hb hts inX12 hown hK hP 0 rfl rfl 55 (by decide) fl142 (fun _ h9 => h9) rfl dX12_give_32 ?_
    refine lv_iload hx hb dX12_give_35 (lv_at hl 0 rfl) ?_
    refine va_iald hx hb hK hP 2 0 rfl rfl (show vp_in 0 4 from by unfold vp_in; decide) dX12_give_37 ?_
    refine lv_topi (fun x_139 ex_139 => ?_)
    have hv_140 : inR x_139 0 127 = true := by rw [ex_139]; exact hI_sets _ (vin_cl (show vp_in 0 4 from by unfold vp_in; decide))
    obtain ⟨w_141, hw_142, ew_143⟩ := inR_nI (n := 127) (by decide) hv_140
    subst ew_143
    have hw09 : w_141 = setOf gp 0 dl := by rw [hn9]; exact nI_inj (by omega) (s128 gp 0 (by decide)) (ex_139.trans (by rw [show Int32.toNatClampNeg 0 = 0 from by decide]; exact hSt 0 (by decide)))
    refine lv_iadd hx hb dX12_give_38 ?_
    refine lv_topi (fun x_144 ex_144 => ?_)
    obtain rfl : x_144 = nI (0 + w_141) := ex_144.trans (nI_add 0 w_141)
    have hi_145 : vp_in (nI (0 + w_141)) 512 := vp_in_nI (by omega) (by decide)
    refine va_iald hx hb hK hP 1 0 rfl rfl hi_145 dX12_give_39 ?_
    refine lv_topi (fun x_146 ex_146 => ?_)
    refine lv_iconst (v := (-1)) hx hb dX12_give_40 (by decide) ?_
    refine lv_icmp_ne (tgt := 45) hx hb dX12_give_41 (by decide) (fun c_147 => ?_) (fun c_147 => ?_)
    · have hn09 : ¬ a_least (128 * 0 + w_141) = -1 := fun q9 => c_147 (ex_146.trans (by rw [nI_clamp (by omega)]; exact q9))
      have hk0 : FF 0 (setOf gp 0 dl) := by rw [← hw09]; exact (hKm 0 (by decide) w_141 (by omega)).1.mp hn09
      refine lv_iload_n hx hb dX12_give_45 rfl (lv_at hl 1 rfl) ?_
      refine lv_aload_n hx hb dX12_give_46 rfl (lv_at hl 3 rfl) ?_
      refine va_get (D := E.1) (ci := 12) (v := .ref (q 51)) (C := RX12) (T := TX12) (N := 59) hx hb hts inX12 hown hK hP 0 rfl rfl 51 (by decide) fl130 (fun _ h9 => h9) rfl dX12_give_47 ?_
      refine lv_sipush (v := 128) hx hb dX12_give_50 (by decide) ?_
      refine lv_iload hx hb dX12_give_53 (lv_at hl 0 rfl) ?_
      refine lv_imul hx hb dX12_give_55 ?_
      refine lv_topi (fun x_148 ex_148 => ?_)
      obtain rfl : x_148 = 0 := ex_148.trans (by decide +kernel)
      refine lv_aload_n hx hb dX12_give_56 rfl (lv_at hl 3 rfl) ?_
      refine va_get (D := E.1) (ci := 12) (v := .ref (q 55)) (C := RX12) (T := TX12) (N := 59) hx hb hts inX12 hown hK hP 0 rfl rfl 55 (by decide) fl142 (fun _ h9 => h9) rfl dX12_give_57 ?_
      refine lv_iload hx hb dX12_give_60 (lv_at hl 0 rfl) ?_
      refine va_iald hx hb hK hP 2 0 rfl rfl (show vp_in 0 4 from by unfold vp_in; decide) dX12_give_62 ?_
      refine lv_topi (fun x_149 ex_149 => ?_)
      obtain rfl : x_149 = nI w_141 := ex_149.trans ex_139.symm
      refine lv_iadd hx hb dX12_give_63 ?_
      refine lv_topi (fun x_150 ex_150 => ?_)
      obtain rfl : x_150 = nI (0 + w_141) := ex_150.trans (nI_add 0 w_141)
      refine va_iald hx hb hK hP 1 0 rfl rfl hi_145 dX12_give_64 ?_
      refine lv_topi (fun x_151 ex_151 => ?_)
      refine lv_iadd hx hb dX12_give_65 ?_
      refine lv_topi (fun x_152 ex_152 => ?_)
      have hc09 := cost_nx (c := 0) (c2 := 1) (co_0 CC gp dl) (x := x_151) (co2 := x_152) ((by rw [ex_151, nI_clamp (by omega)]; exact (hKm 0 (by decide) w_141 (by omega)).2 hn09 : x_151.toInt = CC 0 w_141).trans (by rw [hw09])) (hCb 0 (by decide) _ hk0) ex_152 rfl (by decide)
      refine lv_istore_n (lv' := [(3, .int x_152), (4, .int 0), (2, .int 0), (0, .ref h0), (1, .int 0)]) hx hb dX12_give_66 rfl hl (by decide) rfl (fun ls hl => ?_)
      refine lv_aload_n hx hb dX12_give_67 rfl (lv_at hl 3 rfl) ?_
      refine va_get (D := E.1) (ci := 12) (v := .ref (q 55)) (C := RX12) (T := TX12) (N := 59) hx hb hts inX12 hown hK hP 0 rfl rfl 55 (by decide) fl142 (fun _ h9 => h9) rfl dX12_give_68 ?_
      refine lv_iload hx hb dX12_give_71 (lv_at hl 1 rfl) ?_
      refine va_iald hx hb hK hP 2 0 rfl rfl (show vp_in 0 4 from by unfold vp_in; decide) dX12_give_73 ?_
      refine lv_topi (fun x_153 ex_153 => ?_)
      obtain rfl : x_153 = nI w_141 := ex_153.trans ex_139.symm
      refine lv_istore (lv' := [(5, .int (nI w_141)), (3, .int x_152), (4, .int 0), (2, .int 0), (0, .ref h0), (1, .int 0)]) hx hb dX12_give_74 hl (by decide) rfl (fun ls hl => ?_)
      have hPl := hP.sub (ws' := [(h0, .inr (12, mG q i_taped i_size i_sort i_what i_at i_end i_worth i_faultKind i_faultPlace i_got i_worked (nI dl) i_isPlanned i_bestDone i_bestCost)), (q 51, .inl (E.2.1 0, 512, .inl a_least)), (q 55, .inl (E.2.1 0, 4, .inl a_sets)), (q 54, .inl (E.2.1 0, 7, .inl a_bestGiven)), (q 53, .inl (E.2.1 0, 7, .inl a_given))]) [0, 1, 2, 3, 4] rfl
      have hDl := hD.sub (ws' := [(h0, .inr (12, mG q i_taped i_size i_sort i_what i_at i_end i_worth i_faultKind i_faultPlace i_got i_worked (nI dl) i_isPlanned i_bestDone i_bestCost)), (q 51, .inl (E.2.1 0, 512, .inl a_least)), (q 55, .inl (E.2.1 0, 4, .inl a_sets)), (q 54, .inl (E.2.1 0, 7, .inl a_bestGiven)), (q 53, .inl (E.2.1 0, 7, .inl a_given))]) [0, 1, 2, 3, 4] (by decide) rfl
      refine lm_bits E h0 q i_taped i_size i_sort i_what i_at i_end i_worth i_faultKind i_faultPlace i_got i_worked i_isPlanned i_bestDone i_bestCost dl (0 + pc7 w_141) x_152 0 ([(q 51, .inl (E.2.1 0, 512, .inl a_least)), (q 55, .inl (E.2.1 0, 4, .inl a_sets)), (q 54, .inl (E.2.1 0, 7, .inl a_bestGiven)), (q 53, .inl (E.2.1 0, 7, .inl a_given))]) hx hb hml hown hts hkn hst hA  (fun n_154 H locs ls hm hP hD hS hl => ?_) (w_141 + 1) w_141 0 _ _ _ (Nat.lt_succ_self _) (by omega) rfl hPl hDl hS (lv_sub hl [4, 3, 1, 2, 0] rfl)
      have hP : va_P E.1 vwCl [(h0, .inr (12, mG q i_taped i_size i_sort i_what i_at i_end i_worth i_faultKind i_faultPlace i_got i_worked (nI dl) i_isPlanned i_bestDone i_bestCost)), (q 51, .inl (E.2.1 0, 512, .inl a_least)), (q 55, .inl (E.2.1 0, 4, .inl a_sets)), (q 54, .inl (E.2.1 0, 7, .inl a_bestGiven)), (q 53, .inl (E.2.1 0, 7, .inl a_given))] H := hP
      have hD : va_D A [(h0, .inr (12, mG q i_taped i_size i_sort i_what i_at i_end i_worth i_faultKind i_faultPlace i_got i_worked (nI dl) i_isPlanned i_bestDone i_bestCost)), (q 51, .inl (E.2.1 0, 512, .inl a_least)), (q 55, .inl (E.2.1 0, 4, .inl a_sets)), (q 54, .inl (E.2.1 0, 7, .inl a_bestGiven)), (q 53, .inl (E.2.1 0, 7, .inl a_given))] := hD
      have hm0 := hm
      refine lv_iinc (v := 1) (lv' := [(4, .int 1), (0, .ref h0), (2, .int (nI n_154)), (3, .int x_152)]) hx hb dX12_give_96 hl (k := 3) rfl (by decide) (by decide) rfl (fun ls hl => ?_)
      refine lv_goto (tgt := 15) hx hb dX12_give_99 (by decide) ?_
      refine lv_iload hx hb dX12_give_15 (lv_at hl 0 rfl) ?_
      refine lv_iconst (v := 4) hx hb dX12_give_17 (by decide) ?_
      refine lv_icmp_ge (tgt := 102) hx hb dX12_give_18 (by decide) (fun c9 => absurd c9 (by decide)) (fun _ => ?_)
      refine lv_aload_n hx hb dX12_give_21 rfl (lv_at hl 1 rfl) ?_
      refine va_get (D := E.1) (ci := 12) (v := .ref (q 51)) (C := RX12) (T := TX12) (N := 59) hx hb hts inX12 hown hK hP 0 rfl rfl 51 (by decide) fl130 (fun _ h9 => h9) rfl dX12_give_22 ?_
      refine lv_sipush (v := 128) hx hb dX12_give_25 (by decide) ?_
      refine lv_iload hx hb dX12_give_28 (lv_at hl 0 rfl) ?_
      refine lv_imul hx hb dX12_give_30 ?_
      refine lv_topi (fun x_155 ex_155 => ?_)
      obtain rfl : x_155 = 128 := ex_155.trans (by decide +kernel)
      refine lv_aload_n hx hb dX12_give_31 rfl (lv_at hl 1 rfl) ?_
      refine va_get (D := E.1) (ci := 12) (v := .ref (q 55)) (C := RX12) (T := TX12) (N := 59) hx hb hts inX12 hown hK hP 0 rfl rfl 55 (by decide) fl142 (fun _ h9 => h9) rfl dX12_give_32 ?_
      refine lv_iload hx hb dX12_give_35 (lv_at hl 0 rfl) ?_
      refine va_iald hx hb hK hP 2 0 rfl rfl (show vp_in 1 4 from by unfold vp_in; decide) dX12_give_37 ?_
      refine lv_topi (fun x_156 ex_156 => ?_)
      have hv_157 : inR x_156 0 127 = true := by rw [ex_156]; exact hI_sets _ (vin_cl (show vp_in 1 4 from by unfold vp_in; decide))
      obtain ⟨w_158, hw_159, ew_160⟩ := inR_nI (n := 127) (by decide) hv_157
      subst ew_160
      have hw19 : w_158 = setOf gp 1 dl := by rw [hn9]; exact nI_inj (by omega) (s128 gp 1 (by decide)) (ex_156.trans (by rw [show Int32.toNatClampNeg 1 = 1 from by decide]; exact hSt 1 (by decide)))
      refine lv_iadd hx hb dX12_give_38 ?_
      refine lv_topi (fun x_161 ex_161 => ?_)
      obtain rfl : x_161 = nI (128 + w_158) := ex_161.trans (nI_add 128 w_158)
      have hi_162 : vp_in (nI (128 + w_158)) 512 := vp_in_nI (by omega) (by decide)
      refine va_iald hx hb hK hP 1 0 rfl rfl hi_162 dX12_give_39 ?_
      refine lv_topi (fun x_163 ex_163 => ?_)
      refine lv_iconst (v := (-1)) hx hb dX12_give_40 (by decide) ?_
      refine lv_icmp_ne (tgt := 45) hx hb dX12_give_41 (by decide) (fun c_164 => ?_) (fun c_164 => ?_)
      · have hn19 : ¬ a_least (128 * 1 + w_158) = -1 := fun q9 => c_164 (ex_163.trans (by rw [nI_clamp (by omega)]; exact q9))
        have hk1 : FF 1 (setOf gp 1 dl) := by rw [← hw19]; exact (hKm 1 (by decide) w_158 (by omega)).1.mp hn19
        refine lv_iload_n hx hb dX12_give_45 rfl (lv_at hl 3 rfl) ?_
        refine lv_aload_n hx hb dX12_give_46 rfl (lv_at hl 1 rfl) ?_
        refine va_get (D := E.1) (ci := 12) (v := .ref (q 51)) (C := RX12) (T := TX12) (N := 59) hx hb hts inX12 hown hK hP 0 rfl rfl 51 (by decide) fl130 (fun _ h9 => h9) rfl dX12_give_47 ?_
        refine lv_sipush (v := 128) hx hb dX12_give_50 (by decide) ?_
        refine lv_iload hx hb dX12_give_53 (lv_at hl 0 rfl) ?_
        refine lv_imul hx hb dX12_give_55 ?_
        refine lv_topi (fun x_165 ex_165 => ?_)
        obtain rfl : x_165 = 128 := ex_165.trans (by decide +kernel)
        refine lv_aload_n hx hb dX12_give_56 rfl (lv_at hl 1 rfl) ?_
        refine va_get (D := E.1) (ci := 12) (v := .ref (q 55)) (C := RX12) (T := TX12) (N := 59) hx hb hts inX12 hown hK hP 0 rfl rfl 55 (by decide) fl142 (fun _ h9 => h9) rfl dX12_give_57 ?_
        refine lv_iload hx hb dX12_give_60 (lv_at hl 0 rfl) ?_
        refine va_iald hx hb hK hP 2 0 rfl rfl (show vp_in 1 4 from by unfold vp_in; decide) dX12_give_62 ?_
        refine lv_topi (fun x_166 ex_166 => ?_)
        obtain rfl : x_166 = nI w_158 := ex_166.trans ex_156.symm
        refine lv_iadd hx hb dX12_give_63 ?_
        refine lv_topi (fun x_167 ex_167 => ?_)
        obtain rfl : x_167 = nI (128 + w_158) := ex_167.trans (nI_add 128 w_158)
        refine va_iald hx hb hK hP 1 0 rfl rfl hi_162 dX12_give_64 ?_
        refine lv_topi (fun x_168 ex_168 => ?_)
        refine lv_iadd hx hb dX12_give_65 ?_
        refine lv_topi (fun x_169 ex_169 => ?_)
        have hc19 := cost_nx (c := 1) (c2 := 2) hc09 (x := x_168) (co2 := x_169) ((by rw [ex_168, nI_clamp (by omega)]; exact (hKm 1 (by decide) w_158 (by omega)).2 hn19 : x_168.toInt = CC 1 w_158).trans (by rw [hw19])) (hCb 1 (by decide) _ hk1) ex_169 rfl (by decide)
        refine lv_istore_n (lv' := [(3, .int x_169), (4, .int 1), (0, .ref h0), (2, .int (nI n_154))]) hx hb dX12_give_66 rfl hl (by decide) rfl (fun ls hl => ?_)
        refine lv_aload_n hx hb dX12_give_67 rfl (lv_at hl 2 rfl) ?_
        refine va_get (D := E.1) (ci := 12) (v := .ref (q 55)) (C := RX12) (T := TX12) (N := 59) hx hb hts inX12 hown hK hP 0 rfl rfl 55 (by decide) fl142 (fun _ h9 => h9) rfl dX12_give_68 ?_
        refine lv_iload hx hb dX12_give_71 (lv_at hl 1 rfl) ?_
        refine va_iald hx hb hK hP 2 0 rfl rfl (show vp_in 1 4 from by unfold vp_in; decide) dX12_give_73 ?_
        refine lv_topi (fun x_170 ex_170 => ?_)
        obtain rfl : x_170 = nI w_158 := ex_170.trans ex_156.symm
        refine lv_istore (lv' := [(5, .int (nI w_158)), (3, .int x_169), (4, .int 1), (0, .ref h0), (2, .int (nI n_154))]) hx hb dX12_give_74 hl (by decide) rfl (fun ls hl => ?_)
        have hPl := hP.sub (ws' := [(h0, .inr (12, mG q i_taped i_size i_sort i_what i_at i_end i_worth i_faultKind i_faultPlace i_got i_worked (nI dl) i_isPlanned i_bestDone i_bestCost)), (q 51, .inl (E.2.1 0, 512, .inl a_least)), (q 55, .inl (E.2.1 0, 4, .inl a_sets)), (q 54, .inl (E.2.1 0, 7, .inl a_bestGiven)), (q 53, .inl (E.2.1 0, 7, .inl a_given))]) [0, 1, 2, 3, 4] rfl
        have hDl := hD.sub (ws' := [(h0, .inr (12, mG q i_taped i_size i_sort i_what i_at i_end i_worth i_faultKind i_faultPlace i_got i_worked (nI dl) i_isPlanned i_bestDone i_bestCost)), (q 51, .inl (E.2.1 0, 512, .inl a_least)), (q 55, .inl (E.2.1 0, 4, .inl a_sets)), (q 54, .inl (E.2.1 0, 7, .inl a_bestGiven)), (q 53, .inl (E.2.1 0, 7, .inl a_given))]) [0, 1, 2, 3, 4] (by decide) rfl
        refine lm_bits E h0 q i_taped i_size i_sort i_what i_at i_end i_worth i_faultKind i_faultPlace i_got i_worked i_isPlanned i_bestDone i_bestCost dl (n_154 + pc7 w_158) x_169 1 ([(q 51, .inl (E.2.1 0, 512, .inl a_least)), (q 55, .inl (E.2.1 0, 4, .inl a_sets)), (q 54, .inl (E.2.1 0, 7, .inl a_bestGiven)), (q 53, .inl (E.2.1 0, 7, .inl a_given))]) hx hb hml hown hts hkn hst hA  (fun n_171 H locs ls hm hP hD hS hl => ?_) (w_158 + 1) w_158 n_154 _ _ _ (Nat.lt_succ_self _) (by omega) rfl hPl hDl hS (lv_sub hl [3, 4, 1, 2, 0] rfl)
        have hP : va_P E.1 vwCl [(h0, .inr (12, mG q i_taped i_size i_sort i_what i_at i_end i_worth i_faultKind i_faultPlace i_got i_worked (nI dl) i_isPlanned i_bestDone i_bestCost)), (q 51, .inl (E.2.1 0, 512, .inl a_least)), (q 55, .inl (E.2.1 0, 4, .inl a_sets)), (q 54, .inl (E.2.1 0, 7, .inl a_bestGiven)), (q 53, .inl (E.2.1 0, 7, .inl a_given))] H := hP
        have hD : va_D A [(h0, .inr (12, mG q i_taped i_size i_sort i_what i_at i_end i_worth i_faultKind i_faultPlace i_got i_worked (nI dl) i_isPlanned i_bestDone i_bestCost)), (q 51, .inl (E.2.1 0, 512, .inl a_least)), (q 55, .inl (E.2.1 0, 4, .inl a_sets)), (q 54, .inl (E.2.1 0, 7, .inl a_bestGiven)), (q 53, .inl (E.2.1 0, 7, .inl a_given))] := hD
        have hm1 := hm
        refine lv_iinc (v := 2) (lv' := [(4, .int 2), (0, .ref h0), (2, .int (nI n_171)), (3, .int x_169)]) hx hb dX12_give_96 hl (k := 3) rfl (by decide) (by decide) rfl (fun ls hl => ?_)
        refine lv_goto (tgt := 15) hx hb dX12_give_99 (by decide) ?_
        refine lv_iload hx hb dX12_give_15 (lv_at hl 0 rfl) ?_
        refine lv_iconst (v := 4) hx hb dX12_give_17 (by decide) ?_
        refine lv_icmp_ge (tgt := 102) hx hb dX12_give_18 (by decide) (fun c9 => absurd c9 (by decide)) (fun _ => ?_)
        refine lv_aload_n hx hb dX12_give_21 rfl (lv_at hl 1 rfl) ?_
        refine va_get (D := E.1) (ci := 12) (v := .ref (q 51)) (C := RX12) (T := TX12) (N := 59) hx hb hts inX12 hown hK hP 0 rfl rfl 51 (by decide) fl130 (fun _ h9 => h9) rfl dX12_give_22 ?_
        refine lv_sipush (v := 128) hx hb dX12_give_25 (by decide) ?_
        refine lv_iload hx hb dX12_give_28 (lv_at hl 0 rfl) ?_
        refine lv_imul hx hb dX12_give_30 ?_
        refine lv_topi (fun x_172 ex_172 => ?_)
        obtain rfl : x_172 = 256 := ex_172.trans (by decide +kernel)
        refine lv_aload_n hx hb dX12_give_31 rfl (lv_at hl 1 rfl) ?_
        refine va_get (D := E.1) (ci := 12) (v := .ref (q 55)) (C := RX12) (T := TX12) (N := 59) hx hb hts inX12 hown hK hP 0 rfl rfl 55 (by decide) fl142 (fun _ h9 => h9) rfl dX12_give_32 ?_
        refine lv_iload hx hb dX12_give_35 (lv_at hl 0 rfl) ?_
        refine va_iald hx hb hK hP 2 0 rfl rfl (show vp_in 2 4 from by unfold vp_in; decide) dX12_give_37 ?_
        refine lv_topi (fun x_173 ex_173 => ?_)
        have hv_174 : inR x_173 0 127 = true := by rw [ex_173]; exact hI_sets _ (vin_cl (show vp_in 2 4 from by unfold vp_in; decide))
        obtain ⟨w_175, hw_176, ew_177⟩ := inR_nI (n := 127) (by decide) hv_174
        subst ew_177
        have hw29 : w_175 = setOf gp 2 dl := by rw [hn9]; exact nI_inj (by omega) (s128 gp 2 (by decide)) (ex_173.trans (by rw [show Int32.toNatClampNeg 2 = 2 from by decide]; exact hSt 2 (by decide)))
        refine lv_iadd hx hb dX12_give_38 ?_
        refine lv_topi (fun x_178 ex_178 => ?_)
        obtain rfl : x_178 = nI (256 + w_175) := ex_178.trans (nI_add 256 w_175)
        have hi_179 : vp_in (nI (256 + w_175)) 512 := vp_in_nI (by omega) (by decide)
        refine va_iald hx hb hK hP 1 0 rfl rfl hi_179 dX12_give_39 ?_
        refine lv_topi (fun x_180 ex_180 => ?_)
        refine lv_iconst (v := (-1)) hx hb dX12_give_40 (by decide) ?_
        refine lv_icmp_ne (tgt := 45) hx hb dX12_give_41 (by decide) (fun c_181 => ?_) (fun c_181 => ?_)
        · have hn29 : ¬ a_least (128 * 2 + w_175) = -1 := fun q9 => c_181 (ex_180.trans (by rw [nI_clamp (by omega)]; exact q9))
          have hk2 : FF 2 (setOf gp 2 dl) := by rw [← hw29]; exact (hKm 2 (by decide) w_175 (by omega)).1.mp hn29
          refine lv_iload_n hx hb dX12_give_45 rfl (lv_at hl 3 rfl) ?_
          refine lv_aload_n hx hb dX12_give_46 rfl (lv_at hl 1 rfl) ?_
          refine va_get (D := E.1) (ci := 12) (v := .ref (q 51)) (C := RX12) (T := TX12) (N := 59) hx hb hts inX12 hown hK hP 0 rfl rfl 51 (by decide) fl130 (fun _ h9 => h9) rfl dX12_give_47 ?_
          refine lv_sipush (v := 128) hx hb dX12_give_50 (by decide) ?_
          refine lv_iload hx hb dX12_give_53 (lv_at hl 0 rfl) ?_
          refine lv_imul hx hb dX12_give_55 ?_
          refine lv_topi (fun x_182 ex_182 => ?_)
          obtain rfl : x_182 = 256 := ex_182.trans (by decide +kernel)
          refine lv_aload_n hx hb dX12_give_56 rfl (lv_at hl 1 rfl) ?_
          refine va_get (D := E.1) (ci := 12) (v := .ref (q 55)) (C := RX12) (T := TX12) (N := 59) hx hb hts inX12 hown hK hP 0 rfl rfl 55 (by decide) fl142 (fun _ h9 => h9) rfl dX12_give_57 ?_
          refine lv_iload hx hb dX12_give_60 (lv_at hl 0 rfl) ?_
          refine va_iald hx hb hK hP 2 0 rfl rfl (show vp_in 2 4 from by unfold vp_in; decide) dX12_give_62 ?_
          refine lv_topi (fun x_183 ex_183 => ?_)
          obtain rfl : x_183 = nI w_175 := ex_183.trans ex_173.symm
          refine lv_iadd hx hb dX12_give_63 ?_
          refine lv_topi (fun x_184 ex_184 => ?_)
          obtain rfl : x_184 = nI (256 + w_175) := ex_184.trans (nI_add 256 w_175)
          refine va_iald hx hb hK hP 1 0 rfl rfl hi_179 dX12_give_64 ?_
          refine lv_topi (fun x_185 ex_185 => ?_)
          refine lv_iadd hx hb dX12_give_65 ?_
          refine lv_topi (fun x_186 ex_186 => ?_)
          have hc29 := cost_nx (c := 2) (c2 := 3) hc19 (x := x_185) (co2 := x_186) ((by rw [ex_185, nI_clamp (by omega)]; exact (hKm 2 (by decide) w_175 (by omega)).2 hn29 : x_185.toInt = CC 2 w_175).trans (by rw [hw29])) (hCb 2 (by decide) _ hk2) ex_186 rfl (by decide)
          refine lv_istore_n (lv' := [(3, .int x_186), (4, .int 2), (0, .ref h0), (2, .int (nI n_171))]) hx hb dX12_give_66 rfl hl (by decide) rfl (fun ls hl => ?_)
          refine lv_aload_n hx hb dX12_give_67 rfl (lv_at hl 2 rfl) ?_
          refine va_get (D := E.1) (ci := 12) (v := .ref (q 55)) (C := RX12) (T := TX12) (N := 59) hx hb hts inX12 hown hK hP 0 rfl rfl 55 (by decide) fl142 (fun _ h9 => h9) rfl dX12_give_68 ?_
          refine lv_iload hx hb dX12_give_71 (lv_at hl 1 rfl) ?_
          refine va_iald hx hb hK hP 2 0 rfl rfl (show vp_in 2 4 from by unfold vp_in; decide) dX12_give_73 ?_
          refine lv_topi (fun x_187 ex_187 => ?_)
          obtain rfl : x_187 = nI w_175 := ex_187.trans ex_173.symm
          refine lv_istore (lv' := [(5, .int (nI w_175)), (3, .int x_186), (4, .int 2), (0, .ref h0), (2, .int (nI n_171))]) hx hb dX12_give_74 hl (by decide) rfl (fun ls hl => ?_)
          have hPl := hP.sub (ws' := [(h0, .inr (12, mG q i_taped i_size i_sort i_what i_at i_end i_worth i_faultKind i_faultPlace i_got i_worked (nI dl) i_isPlanned i_bestDone i_bestCost)), (q 51, .inl (E.2.1 0, 512, .inl a_least)), (q 55, .inl (E.2.1 0, 4, .inl a_sets)), (q 54, .inl (E.2.1 0, 7, .inl a_bestGiven)), (q 53, .inl (E.2.1 0, 7, .inl a_given))]) [0, 1, 2, 3, 4] rfl
          have hDl := hD.sub (ws' := [(h0, .inr (12, mG q i_taped i_size i_sort i_what i_at i_end i_worth i_faultKind i_faultPlace i_got i_worked (nI dl) i_isPlanned i_bestDone i_bestCost)), (q 51, .inl (E.2.1 0, 512, .inl a_least)), (q 55, .inl (E.2.1 0, 4, .inl a_sets)), (q 54, .inl (E.2.1 0, 7, .inl a_bestGiven)), (q 53, .inl (E.2.1 0, 7, .inl a_given))]) [0, 1, 2, 3, 4] (by decide) rfl
          refine lm_bits E h0 q i_taped i_size i_sort i_what i_at i_end i_worth i_faultKind i_faultPlace i_got i_worked i_isPlanned i_bestDone i_bestCost dl (n_171 + pc7 w_175) x_186 2 ([(q 51, .inl (E.2.1 0, 512, .inl a_least)), (q 55, .inl (E.2.1 0, 4, .inl a_sets)), (q 54, .inl (E.2.1 0, 7, .inl a_bestGiven)), (q 53, .inl (E.2.1 0, 7, .inl a_given))]) hx hb hml hown hts hkn hst hA  (fun n_188 H locs ls hm hP hD hS hl => ?_) (w_175 + 1) w_175 n_171 _ _ _ (Nat.lt_succ_self _) (by omega) rfl hPl hDl hS (lv_sub hl [3, 4, 1, 2, 0] rfl)
          have hP : va_P E.1 vwCl [(h0, .inr (12, mG q i_taped i_size i_sort i_what i_at i_end i_worth i_faultKind i_faultPlace i_got i_worked (nI dl) i_isPlanned i_bestDone i_bestCost)), (q 51, .inl (E.2.1 0, 512, .inl a_least)), (q 55, .inl (E.2.1 0, 4, .inl a_sets)), (q 54, .inl (E.2.1 0, 7, .inl a_bestGiven)), (q 53, .inl (E.2.1 0, 7, .inl a_given))] H := hP
          have hD : va_D A [(h0, .inr (12, mG q i_taped i_size i_sort i_what i_at i_end i_worth i_faultKind i_faultPlace i_got i_worked (nI dl) i_isPlanned i_bestDone i_bestCost)), (q 51, .inl (E.2.1 0, 512, .inl a_least)), (q 55, .inl (E.2.1 0, 4, .inl a_sets)), (q 54, .inl (E.2.1 0, 7, .inl a_bestGiven)), (q 53, .inl (E.2.1 0, 7, .inl a_given))] := hD
          have hm2 := hm
          refine lv_iinc (v := 3) (lv' := [(4, .int 3), (0, .ref h0), (2, .int (nI n_188)), (3, .int x_186)]) hx hb dX12_give_96 hl (k := 3) rfl (by decide) (by decide) rfl (fun ls hl => ?_)
          refine lv_goto (tgt := 15) hx hb dX12_give_99 (by decide) ?_
          refine lv_iload hx hb dX12_give_15 (lv_at hl 0 rfl) ?_
          refine lv_iconst (v := 4) hx hb dX12_give_17 (by decide) ?_
          refine lv_icmp_ge (tgt := 102) hx hb dX12_give_18 (by decide) (fun c9 => absurd c9 (by decide)) (fun _ => ?_)
          refine lv_aload_n hx hb dX12_give_21 rfl (lv_at hl 1 rfl) ?_
          refine va_get (D := E.1) (ci := 12) (v := .ref (q 51)) (C := RX12) (T := TX12) (N := 59) hx hb hts inX12 hown hK hP 0 rfl rfl 51 (by decide) fl130 (fun _ h9 => h9) rfl dX12_give_22 ?_
          refine lv_sipush (v := 128) hx hb dX12_give_25 (by decide) ?_
          refine lv_iload hx hb dX12_give_28 (lv_at hl 0 rfl) ?_
          refine lv_imul hx hb dX12_give_30 ?_
          refine lv_topi (fun x_189 ex_189 => ?_)
          obtain rfl : x_189 = 384 := ex_189.trans (by decide +kernel)
          refine lv_aload_n hx hb dX12_give_31 rfl (lv_at hl 1 rfl) ?_
          refine va_get (D := E.1) (ci := 12) (v := .ref (q 55)) (C := RX12) (T := TX12) (N := 59) hx hb hts inX12 hown hK hP 0 rfl rfl 55 (by decide) fl142 (fun _ h9 => h9) rfl dX12_give_32 ?_
          refine lv_iload hx hb dX12_give_35 (lv_at hl 0 rfl) ?_
          refine va_iald hx hb hK hP 2 0 rfl rfl (show vp_in 3 4 from by unfold vp_in; decide) dX12_give_37 ?_
          refine lv_topi (fun x_190 ex_190 => ?_)
          have hv_191 : inR x_190 0 127 = true := by rw [ex_190]; exact hI_sets _ (vin_cl (show vp_in 3 4 from by unfold vp_in; decide))
          obtain ⟨w_192, hw_193, ew_194⟩ := inR_nI (n := 127) (by decide) hv_191
          subst ew_194
          have hw39 : w_192 = setOf gp 3 dl := by rw [hn9]; exact nI_inj (by omega) (s128 gp 3 (by decide)) (ex_190.trans (by rw [show Int32.toNatClampNeg 3 = 3 from by decide]; exact hSt 3 (by decide)))
          refine lv_iadd hx hb dX12_give_38 ?_
          refine lv_topi (fun x_195 ex_195 => ?_)
          obtain rfl : x_195 = nI (384 + w_192) := ex_195.trans (nI_add 384 w_192)
          have hi_196 : vp_in (nI (384 + w_192)) 512 := vp_in_nI (by omega) (by decide)
          refine va_iald hx hb hK hP 1 0 rfl rfl hi_196 dX12_give_39 ?_
          refine lv_topi (fun x_197 ex_197 => ?_)
          refine lv_iconst (v := (-1)) hx hb dX12_give_40 (by decide) ?_
          refine lv_icmp_ne (tgt := 45) hx hb dX12_give_41 (by decide) (fun c_198 => ?_) (fun c_198 => ?_)
          · have hn39 : ¬ a_least (128 * 3 + w_192) = -1 := fun q9 => c_198 (ex_197.trans (by rw [nI_clamp (by omega)]; exact q9))
            have hk3 : FF 3 (setOf gp 3 dl) := by rw [← hw39]; exact (hKm 3 (by decide) w_192 (by omega)).1.mp hn39
            refine lv_iload_n hx hb dX12_give_45 rfl (lv_at hl 3 rfl) ?_
            refine lv_aload_n hx hb dX12_give_46 rfl (lv_at hl 1 rfl) ?_
            refine va_get (D := E.1) (ci := 12) (v := .ref (q 51)) (C := RX12) (T := TX12) (N := 59) hx hb hts inX12 hown hK hP 0 rfl rfl 51 (by decide) fl130 (fun _ h9 => h9) rfl dX12_give_47 ?_
            refine lv_sipush (v := 128) hx hb dX12_give_50 (by decide) ?_
            refine lv_iload hx hb dX12_give_53 (lv_at hl 0 rfl) ?_
            refine lv_imul hx hb dX12_give_55 ?_
            refine lv_topi (fun x_199 ex_199 => ?_)
            obtain rfl : x_199 = 384 := ex_199.trans (by decide +kernel)
            refine lv_aload_n hx hb dX12_give_56 rfl (lv_at hl 1 rfl) ?_
            refine va_get (D := E.1) (ci := 12) (v := .ref (q 55)) (C := RX12) (T := TX12) (N := 59) hx hb hts inX12 hown hK hP 0 rfl rfl 55 (by decide) fl142 (fun _ h9 => h9) rfl dX12_give_57 ?_
            refine lv_iload hx hb dX12_give_60 (lv_at hl 0 rfl) ?_
            refine va_iald hx hb hK hP 2 0 rfl rfl (show vp_in 3 4 from by unfold vp_in; decide) dX12_give_62 ?_
            refine lv_topi (fun x_200 ex_200 => ?_)
            obtain rfl : x_200 = nI w_192 := ex_200.trans ex_190.symm
            refine lv_iadd hx hb dX12_give_63 ?_
            refine lv_topi (fun x_201 ex_201 => ?_)
            obtain rfl : x_201 = nI (384 + w_192) := ex_201.trans (nI_add 384 w_192)
            refine va_iald hx hb hK hP 1 0 rfl rfl hi_196 dX12_give_64 ?_
            refine lv_topi (fun x_202 ex_202 => ?_)
            refine lv_iadd hx hb dX12_give_65 ?_
            refine lv_topi (fun x_203 ex_203 => ?_)
            have hc39 := cost_nx (c := 3) (c2 := 4) hc29 (x := x_202) (co2 := x_203) ((by rw [ex_202, nI_clamp (by omega)]; exact (hKm 3 (by decide) w_192 (by omega)).2 hn39 : x_202.toInt = CC 3 w_192).trans (by rw [hw39])) (hCb 3 (by decide) _ hk3) ex_203 rfl (by decide)
            refine lv_istore_n (lv' := [(3, .int x_203), (4, .int 3), (0, .ref h0), (2, .int (nI n_188))]) hx hb dX12_give_66 rfl hl (by decide) rfl (fun ls hl => ?_)
            refine lv_aload_n hx hb dX12_give_67 rfl (lv_at hl 2 rfl) ?_
            refine va_get (D := E.1) (ci := 12) (v := .ref (q 55)) (C := RX12) (T := TX12) (N := 59) hx hb hts inX12 hown hK hP 0 rfl rfl 55 (by decide) fl142 (fun _ h9 => h9) rfl dX12_give_68 ?_
            refine lv_iload hx hb dX12_give_71 (lv_at hl 1 rfl) ?_
            refine va_iald hx hb hK hP 2 0 rfl rfl (show vp_in 3 4 from by unfold vp_in; decide) dX12_give_73 ?_
            refine lv_topi (fun x_204 ex_204 => ?_)
            obtain rfl : x_204 = nI w_192 := ex_204.trans ex_190.symm
            refine lv_istore (lv' := [(5, .int (nI w_192)), (3, .int x_203), (4, .int 3), (0, .ref h0), (2, .int (nI n_188))]) hx hb dX12_give_74 hl (by decide) rfl (fun ls hl => ?_)
            have hPl := hP.sub (ws' := [(h0, .inr (12, mG q i_taped i_size i_sort i_what i_at i_end i_worth i_faultKind i_faultPlace i_got i_worked (nI dl) i_isPlanned i_bestDone i_bestCost)), (q 51, .inl (E.2.1 0, 512, .inl a_least)), (q 55, .inl (E.2.1 0, 4, .inl a_sets)), (q 54, .inl (E.2.1 0, 7, .inl a_bestGiven)), (q 53, .inl (E.2.1 0, 7, .inl a_given))]) [0, 1, 2, 3, 4] rfl
            have hDl := hD.sub (ws' := [(h0, .inr (12, mG q i_taped i_size i_sort i_what i_at i_end i_worth i_faultKind i_faultPlace i_got i_worked (nI dl) i_isPlanned i_bestDone i_bestCost)), (q 51, .inl (E.2.1 0, 512, .inl a_least)), (q 55, .inl (E.2.1 0, 4, .inl a_sets)), (q 54, .inl (E.2.1 0, 7, .inl a_bestGiven)), (q 53, .inl (E.2.1 0, 7, .inl a_given))]) [0, 1, 2, 3, 4] (by decide) rfl
            refine lm_bits E h0 q i_taped i_size i_sort i_what i_at i_end i_worth i_faultKind i_faultPlace i_got i_worked i_isPlanned i_bestDone i_bestCost dl (n_188 + pc7 w_192) x_203 3 ([(q 51, .inl (E.2.1 0, 512, .inl a_least)), (q 55, .inl (E.2.1 0, 4, .inl a_sets)), (q 54, .inl (E.2.1 0, 7, .inl a_bestGiven)), (q 53, .inl (E.2.1 0, 7, .inl a_given))]) hx hb hml hown hts hkn hst hA  (fun n_205 H locs ls hm hP hD hS hl => ?_) (w_192 + 1) w_192 n_188 _ _ _ (Nat.lt_succ_self _) (by omega) rfl hPl hDl hS (lv_sub hl [3, 4, 1, 2, 0] rfl)
            have hP : va_P E.1 vwCl [(h0, .inr (12, mG q i_taped i_size i_sort i_what i_at i_end i_worth i_faultKind i_faultPlace i_got i_worked (nI dl) i_isPlanned i_bestDone i_bestCost)), (q 51, .inl (E.2.1 0, 512, .inl a_least)), (q 55, .inl (E.2.1 0, 4, .inl a_sets)), (q 54, .inl (E.2.1 0, 7, .inl a_bestGiven)), (q 53, .inl (E.2.1 0, 7, .inl a_given))] H := hP
            have hD : va_D A [(h0, .inr (12, mG q i_taped i_size i_sort i_what i_at i_end i_worth i_faultKind i_faultPlace i_got i_worked (nI dl) i_isPlanned i_bestDone i_bestCost)), (q 51, .inl (E.2.1 0, 512, .inl a_least)), (q 55, .inl (E.2.1 0, 4, .inl a_sets)), (q 54, .inl (E.2.1 0, 7, .inl a_bestGiven)), (q 53, .inl (E.2.1 0, 7, .inl a_given))] := hD
            have hm3 := hm
            refine lv_iinc (v := 4) (lv' := [(4, .int 4), (0, .ref h0), (2, .int (nI n_205)), (3, .int x_203)]) hx hb dX12_give_96 hl (k := 3) rfl (by decide) (by decide) rfl (fun ls hl => ?_)
            refine lv_goto (tgt := 15) hx hb dX12_give_99 (by decide) ?_
            refine lv_iload hx hb dX12_give_15 (lv_at hl 0 rfl) ?_
            refine lv_iconst (v := 4) hx hb dX12_give_17 (by decide) ?_
            refine lv_icmp_ge (tgt := 102) hx hb dX12_give_18 (by decide) (fun _ => ?_) (fun c9 => absurd c9 (by decide))
            have p70 := pc7_le w_141 (by omega)
            have p71 := pc7_le w_158 (by omega)
            have p72 := pc7_le w_175 (by omega)
            have p73 := pc7_le w_192 (by omega)
            have hcn9 : n_205 = cnt gp dl := by rw [← pc_sum gp dl hdl, ← hw09, ← hw19, ← hw29, ← hw39]; omega
            refine lv_iload_n hx hb dX12_give_102 rfl (lv_at hl 2 rfl) ?_
            refine lv_aload_n hx hb dX12_give_103 rfl (lv_at hl 1 rfl) ?_
            refine va_get (D := E.1) (ci := 12) (v := .int i_bestDone) (C := RX12) (T := TX12) (N := 59) hx hb hts inX12 hown hK hP 0 rfl rfl 57 (by decide) fl300 (fun _ h9 => h9) rfl dX12_give_104 ?_
            refine lv_icmp_lt (tgt := 126) hx hb dX12_give_107 (by decide) (fun c_206 => ?_) (fun c_206 => ?_)
            · have hP9 := hP.sub (ws' := [(h0, .inr (12, mG q i_taped i_size i_sort i_what i_at i_end i_worth i_faultKind i_faultPlace i_got i_worked (nI dl) i_isPlanned i_bestDone i_bestCost)), (q 51, .inl (E.2.1 0, 512, .inl a_least)), (q 55, .inl (E.2.1 0, 4, .inl a_sets)), (q 54, .inl (E.2.1 0, 7, .inl a_bestGiven)), (q 53, .inl (E.2.1 0, 7, .inl a_given))]) [0, 1, 2, 3, 4] rfl
              have hD9 := hD.sub (ws' := [(h0, .inr (12, mG q i_taped i_size i_sort i_what i_at i_end i_worth i_faultKind i_faultPlace i_got i_worked (nI dl) i_isPlanned i_bestDone i_bestCost)), (q 51, .inl (E.2.1 0, 512, .inl a_least)), (q 55, .inl (E.2.1 0, 4, .inl a_sets)), (q 54, .inl (E.2.1 0, 7, .inl a_bestGiven)), (q 53, .inl (E.2.1 0, 7, .inl a_given))]) [0, 1, 2, 3, 4] (by decide) rfl
              exact W.vret hx hb hr (fun t ht hW => ⟨⟨(i_bestDone, i_bestCost, a_sets, a_bestGiven, a_given), rfl, (BG_post hn9 (BG_old hdl hp9 (Or.inl (by rw [← hcn9]; exact gx_lt (by omega) c_206)) hB9)), hI_sets, (fun i hi => rfl), (fun k hk => rfl), by rw [ht]; exact hP9, hD9⟩, hS.F ht⟩) hS.2.2 dX12_give_126
            · refine lv_iload_n hx hb dX12_give_110 rfl (lv_at hl 2 rfl) ?_
              refine lv_aload_n hx hb dX12_give_111 rfl (lv_at hl 1 rfl) ?_
              refine va_get (D := E.1) (ci := 12) (v := .int i_bestDone) (C := RX12) (T := TX12) (N := 59) hx hb hts inX12 hown hK hP 0 rfl rfl 57 (by decide) fl300 (fun _ h9 => h9) rfl dX12_give_112 ?_
              refine lv_icmp_ne (tgt := 127) hx hb dX12_give_115 (by decide) (fun c_207 => ?_) (fun c_207 => ?_)
              · refine lv_aload_n hx hb dX12_give_127 rfl (lv_at hl 1 rfl) ?_
                refine lv_iload_n hx hb dX12_give_128 rfl (lv_at hl 2 rfl) ?_
                refine va_put (D := E.1) (ci := 12) (v := .int (nI n_205)) (ty := .int) (C := RX12) (T := TX12) (N := 59) hx hb hts inX12 tyX12 tyX12_ok nmX12 hown hK hP hD hS 0 rfl rfl 57 (by decide) fl300 (fun _ h9 => h9) rfl (by decide +kernel) rfl rfl (Nat.le_of_ble_eq_true rfl) dX12_give_129 (fun H locs hP hD hS => ?_)
                have hP : va_P E.1 vwCl [(h0, .inr (12, mG q i_taped i_size i_sort i_what i_at i_end i_worth i_faultKind i_faultPlace i_got i_worked (nI dl) i_isPlanned (nI n_205) i_bestCost)), (q 51, .inl (E.2.1 0, 512, .inl a_least)), (q 55, .inl (E.2.1 0, 4, .inl a_sets)), (q 54, .inl (E.2.1 0, 7, .inl a_bestGiven)), (q 53, .inl (E.2.1 0, 7, .inl a_given))] H := hP
                have hD : va_D A [(h0, .inr (12, mG q i_taped i_size i_sort i_what i_at i_end i_worth i_faultKind i_faultPlace i_got i_worked (nI dl) i_isPlanned (nI n_205) i_bestCost)), (q 51, .inl (E.2.1 0, 512, .inl a_least)), (q 55, .inl (E.2.1 0, 4, .inl a_sets)), (q 54, .inl (E.2.1 0, 7, .inl a_bestGiven)), (q 53, .inl (E.2.1 0, 7, .inl a_given))] := hD
                refine lv_aload_n hx hb dX12_give_132 rfl (lv_at hl 1 rfl) ?_
                refine lv_iload_n hx hb dX12_give_133 rfl (lv_at hl 3 rfl) ?_
                refine va_put (D := E.1) (ci := 12) (v := .int x_203) (ty := .int) (C := RX12) (T := TX12) (N := 59) hx hb hts inX12 tyX12 tyX12_ok nmX12 hown hK hP hD hS 0 rfl rfl 58 (by decide) fl303 (fun _ h9 => h9) rfl (by decide +kernel) rfl rfl (Nat.le_of_ble_eq_true rfl) dX12_give_134 (fun H locs hP hD hS => ?_)
                have hP : va_P E.1 vwCl [(h0, .inr (12, mG q i_taped i_size i_sort i_what i_at i_end i_worth i_faultKind i_faultPlace i_got i_worked (nI dl) i_isPlanned (nI n_205) x_203)), (q 51, .inl (E.2.1 0, 512, .inl a_least)), (q 55, .inl (E.2.1 0, 4, .inl a_sets)), (q 54, .inl (E.2.1 0, 7, .inl a_bestGiven)), (q 53, .inl (E.2.1 0, 7, .inl a_given))] H := hP
                have hD : va_D A [(h0, .inr (12, mG q i_taped i_size i_sort i_what i_at i_end i_worth i_faultKind i_faultPlace i_got i_worked (nI dl) i_isPlanned (nI n_205) x_203)), (q 51, .inl (E.2.1 0, 512, .inl a_least)), (q 55, .inl (E.2.1 0, 4, .inl a_sets)), (q 54, .inl (E.2.1 0, 7, .inl a_bestGiven)), (q 53, .inl (E.2.1 0, 7, .inl a_given))] := hD
                refine lv_iconst (v := 0) hx hb dX12_give_137 (by decide) ?_
                refine lv_istore (lv' := [(4, .int 0), (0, .ref h0), (2, .int (nI n_205)), (3, .int x_203)]) hx hb dX12_give_138 hl (by decide) rfl (fun ls hl => ?_)
                have hPl := hP.sub (ws' := [(h0, .inr (12, mG q i_taped i_size i_sort i_what i_at i_end i_worth i_faultKind i_faultPlace i_got i_worked (nI dl) i_isPlanned (nI n_205) x_203)), (q 53, .inl (E.2.1 0, 7, .inl a_given)), (q 54, .inl (E.2.1 0, 7, .inl a_bestGiven)), (q 51, .inl (E.2.1 0, 512, .inl a_least)), (q 55, .inl (E.2.1 0, 4, .inl a_sets))]) [0, 4, 3, 1, 2] rfl
                have hDl := hD.sub (ws' := [(h0, .inr (12, mG q i_taped i_size i_sort i_what i_at i_end i_worth i_faultKind i_faultPlace i_got i_worked (nI dl) i_isPlanned (nI n_205) x_203)), (q 53, .inl (E.2.1 0, 7, .inl a_given)), (q 54, .inl (E.2.1 0, 7, .inl a_bestGiven)), (q 51, .inl (E.2.1 0, 512, .inl a_least)), (q 55, .inl (E.2.1 0, 4, .inl a_sets))]) [0, 4, 3, 1, 2] (by decide) rfl
                refine lm_copy E h0 q i_taped i_size i_sort i_what i_at i_end i_worth i_faultKind i_faultPlace i_got i_worked i_isPlanned (nI n_205) x_203 dl a_given ([(q 51, .inl (E.2.1 0, 512, .inl a_least)), (q 55, .inl (E.2.1 0, 4, .inl a_sets))]) hx hb hml hown hts hkn hst hA (by omega) (fun n_208 H locs ls hcp hP hD hS hl => ?_) 9 0 a_bestGiven _ _ _ (by omega) (by omega) (fun j hj => absurd hj (Nat.not_lt_zero j)) hPl hDl hS (lv_sub hl [1, 0] rfl)
                have hP : va_P E.1 vwCl [(h0, .inr (12, mG q i_taped i_size i_sort i_what i_at i_end i_worth i_faultKind i_faultPlace i_got i_worked (nI dl) i_isPlanned (nI n_205) x_203)), (q 53, .inl (E.2.1 0, 7, .inl a_given)), (q 54, .inl (E.2.1 0, 7, .inl n_208)), (q 51, .inl (E.2.1 0, 512, .inl a_least)), (q 55, .inl (E.2.1 0, 4, .inl a_sets))] H := hP
                have hD : va_D A [(h0, .inr (12, mG q i_taped i_size i_sort i_what i_at i_end i_worth i_faultKind i_faultPlace i_got i_worked (nI dl) i_isPlanned (nI n_205) x_203)), (q 53, .inl (E.2.1 0, 7, .inl a_given)), (q 54, .inl (E.2.1 0, 7, .inl n_208)), (q 51, .inl (E.2.1 0, 512, .inl a_least)), (q 55, .inl (E.2.1 0, 4, .inl a_sets))] := hD
                have hP9 := hP.sub (ws' := [(h0, .inr (12, mG q i_taped i_size i_sort i_what i_at i_end i_worth i_faultKind i_faultPlace i_got i_worked (nI dl) i_isPlanned (nI n_205) x_203)), (q 51, .inl (E.2.1 0, 512, .inl a_least)), (q 55, .inl (E.2.1 0, 4, .inl a_sets)), (q 54, .inl (E.2.1 0, 7, .inl n_208)), (q 53, .inl (E.2.1 0, 7, .inl a_given))]) [0, 3, 4, 2, 1] rfl
                have hD9 := hD.sub (ws' := [(h0, .inr (12, mG q i_taped i_size i_sort i_what i_at i_end i_worth i_faultKind i_faultPlace i_got i_worked (nI dl) i_isPlanned (nI n_205) x_203)), (q 51, .inl (E.2.1 0, 512, .inl a_least)), (q 55, .inl (E.2.1 0, 4, .inl a_sets)), (q 54, .inl (E.2.1 0, 7, .inl n_208)), (q 53, .inl (E.2.1 0, 7, .inl a_given))]) [0, 3, 4, 2, 1] (by decide) rfl
                exact W.vret hx hb hr (fun t ht hW => ⟨⟨(nI n_205, x_203, a_sets, n_208, a_given), rfl, (BG_post hn9 (BG_new hdl hp9 (F4_all hk0 hk1 hk2 hk3) (Or.inl (by rw [← hcn9]; exact gx_gt (by omega) c_206 c_207)) (by rw [← hcn9]) hc39.1 (fun j hj => (hcp j hj).trans (hGv j (by omega))) hB9)), hI_sets, (fun i hi => rfl), (fun k hk => rfl), by rw [ht]; exact hP9, hD9⟩, hS.F ht⟩) hS.2.2 dX12_give_169
              · refine lv_iload_n hx hb dX12_give_118 rfl (lv_at hl 3 rfl) ?_
                refine lv_aload_n hx hb dX12_give_119 rfl (lv_at hl 1 rfl) ?_
                refine va_get (D := E.1) (ci := 12) (v := .int i_bestCost) (C := RX12) (T := TX12) (N := 59) hx hb hts inX12 hown hK hP 0 rfl rfl 58 (by decide) fl303 (fun _ h9 => h9) rfl dX12_give_120 ?_
                refine lv_icmp_lt (tgt := 127) hx hb dX12_give_123 (by decide) (fun c_209 => ?_) (fun c_209 => ?_)
                · refine lv_aload_n hx hb dX12_give_127 rfl (lv_at hl 1 rfl) ?_
                  refine lv_iload_n hx hb dX12_give_128 rfl (lv_at hl 2 rfl) ?_
                  refine va_put (D := E.1) (ci := 12) (v := .int (nI n_205)) (ty := .int) (C := RX12) (T := TX12) (N := 59) hx hb hts inX12 tyX12 tyX12_ok nmX12 hown hK hP hD hS 0 rfl rfl 57 (by decide) fl300 (fun _ h9 => h9) rfl (by decide +kernel) rfl rfl (Nat.le_of_ble_eq_true rfl) dX12_give_129 (fun H locs hP hD hS => ?_)
                  have hP : va_P E.1 vwCl [(h0, .inr (12, mG q i_taped i_size i_sort i_what i_at i_end i_worth i_faultKind i_faultPlace i_got i_worked (nI dl) i_isPlanned (nI n_205) i_bestCost)), (q 51, .inl (E.2.1 0, 512, .inl a_least)), (q 55, .inl (E.2.1 0, 4, .inl a_sets)), (q 54, .inl (E.2.1 0, 7, .inl a_bestGiven)), (q 53, .inl (E.2.1 0, 7, .inl a_given))] H := hP
                  have hD : va_D A [(h0, .inr (12, mG q i_taped i_size i_sort i_what i_at i_end i_worth i_faultKind i_faultPlace i_got i_worked (nI dl) i_isPlanned (nI n_205) i_bestCost)), (q 51, .inl (E.2.1 0, 512, .inl a_least)), (q 55, .inl (E.2.1 0, 4, .inl a_sets)), (q 54, .inl (E.2.1 0, 7, .inl a_bestGiven)), (q 53, .inl (E.2.1 0, 7, .inl a_given))] := hD
                  refine lv_aload_n hx hb dX12_give_132 rfl (lv_at hl 1 rfl) ?_
                  refine lv_iload_n hx hb dX12_give_133 rfl (lv_at hl 3 rfl) ?_
                  refine va_put (D := E.1) (ci := 12) (v := .int x_203) (ty := .int) (C := RX12) (T := TX12) (N := 59) hx hb hts inX12 tyX12 tyX12_ok nmX12 hown hK hP hD hS 0 rfl rfl 58 (by decide) fl303 (fun _ h9 => h9) rfl (by decide +kernel) rfl rfl (Nat.le_of_ble_eq_true rfl) dX12_give_134 (fun H locs hP hD hS => ?_)
                  have hP : va_P E.1 vwCl [(h0, .inr (12, mG q i_taped i_size i_sort i_what i_at i_end i_worth i_faultKind i_faultPlace i_got i_worked (nI dl) i_isPlanned (nI n_205) x_203)), (q 51, .inl (E.2.1 0, 512, .inl a_least)), (q 55, .inl (E.2.1 0, 4, .inl a_sets)), (q 54, .inl (E.2.1 0, 7, .inl a_bestGiven)), (q 53, .inl (E.2.1 0, 7, .inl a_given))] H := hP
                  have hD : va_D A [(h0, .inr (12, mG q i_taped i_size i_sort i_what i_at i_end i_worth i_faultKind i_faultPlace i_got i_worked (nI dl) i_isPlanned (nI n_205) x_203)), (q 51, .inl (E.2.1 0, 512, .inl a_least)), (q 55, .inl (E.2.1 0, 4, .inl a_sets)), (q 54, .inl (E.2.1 0, 7, .inl a_bestGiven)), (q 53, .inl (E.2.1 0, 7, .inl a_given))] := hD
                  refine lv_iconst (v := 0) hx hb dX12_give_137 (by decide) ?_
                  refine lv_istore (lv' := [(4, .int 0), (0, .ref h0), (2, .int (nI n_205)), (3, .int x_203)]) hx hb dX12_give_138 hl (by decide) rfl (fun ls hl => ?_)
                  have hPl := hP.sub (ws' := [(h0, .inr (12, mG q i_taped i_size i_sort i_what i_at i_end i_worth i_faultKind i_faultPlace i_got i_worked (nI dl) i_isPlanned (nI n_205) x_203)), (q 53, .inl (E.2.1 0, 7, .inl a_given)), (q 54, .inl (E.2.1 0, 7, .inl a_bestGiven)), (q 51, .inl (E.2.1 0, 512, .inl a_least)), (q 55, .inl (E.2.1 0, 4, .inl a_sets))]) [0, 4, 3, 1, 2] rfl
                  have hDl := hD.sub (ws' := [(h0, .inr (12, mG q i_taped i_size i_sort i_what i_at i_end i_worth i_faultKind i_faultPlace i_got i_worked (nI dl) i_isPlanned (nI n_205) x_203)), (q 53, .inl (E.2.1 0, 7, .inl a_given)), (q 54, .inl (E.2.1 0, 7, .inl a_bestGiven)), (q 51, .inl (E.2.1 0, 512, .inl a_least)), (q 55, .inl (E.2.1 0, 4, .inl a_sets))]) [0, 4, 3, 1, 2] (by decide) rfl
                  refine lm_copy E h0 q i_taped i_size i_sort i_what i_at i_end i_worth i_faultKind i_faultPlace i_got i_worked i_isPlanned (nI n_205) x_203 dl a_given ([(q 51, .inl (E.2.1 0, 512, .inl a_least)), (q 55, .inl (E.2.1 0, 4, .inl a_sets))]) hx hb hml hown hts hkn hst hA (by omega) (fun n_210 H locs ls hcp hP hD hS hl => ?_) 9 0 a_bestGiven _ _ _ (by omega) (by omega) (fun j hj => absurd hj (Nat.not_lt_zero j)) hPl hDl hS (lv_sub hl [1, 0] rfl)
                  have hP : va_P E.1 vwCl [(h0, .inr (12, mG q i_taped i_size i_sort i_what i_at i_end i_worth i_faultKind i_faultPlace i_got i_worked (nI dl) i_isPlanned (nI n_205) x_203)), (q 53, .inl (E.2.1 0, 7, .inl a_given)), (q 54, .inl (E.2.1 0, 7, .inl n_210)), (q 51, .inl (E.2.1 0, 512, .inl a_least)), (q 55, .inl (E.2.1 0, 4, .inl a_sets))] H := hP
                  have hD : va_D A [(h0, .inr (12, mG q i_taped i_size i_sort i_what i_at i_end i_worth i_faultKind i_faultPlace i_got i_worked (nI dl) i_isPlanned (nI n_205) x_203)), (q 53, .inl (E.2.1 0, 7, .inl a_given)), (q 54, .inl (E.2.1 0, 7, .inl n_210)), (q 51, .inl (E.2.1 0, 512, .inl a_least)), (q 55, .inl (E.2.1 0, 4, .inl a_sets))] := hD
                  have hP9 := hP.sub (ws' := [(h0, .inr (12, mG q i_taped i_size i_sort i_what i_at i_end i_worth i_faultKind i_faultPlace i_got i_worked (nI dl) i_isPlanned (nI n_205) x_203)), (q 51, .inl (E.2.1 0, 512, .inl a_least)), (q 55, .inl (E.2.1 0, 4, .inl a_sets)), (q 54, .inl (E.2.1 0, 7, .inl n_210)), (q 53, .inl (E.2.1 0, 7, .inl a_given))]) [0, 3, 4, 2, 1] rfl
                  have hD9 := hD.sub (ws' := [(h0, .inr (12, mG q i_taped i_size i_sort i_what i_at i_end i_worth i_faultKind i_faultPlace i_got i_worked (nI dl) i_isPlanned (nI n_205) x_203)), (q 51, .inl (E.2.1 0, 512, .inl a_least)), (q 55, .inl (E.2.1 0, 4, .inl a_sets)), (q 54, .inl (E.2.1 0, 7, .inl n_210)), (q 53, .inl (E.2.1 0, 7, .inl a_given))]) [0, 3, 4, 2, 1] (by decide) rfl
                  exact W.vret hx hb hr (fun t ht hW => ⟨⟨(nI n_205, x_203, a_sets, n_210, a_given), rfl, (BG_post hn9 (BG_new hdl hp9 (F4_all hk0 hk1 hk2 hk3) (Or.inr ⟨(by rw [← hcn9]; exact (gx_eq (by omega) c_207).symm), (by rw [← hc39.1]; exact (ii_lt _ _).mp c_209)⟩) (by rw [← hcn9]) hc39.1 (fun j hj => (hcp j hj).trans (hGv j (by omega))) hB9)), hI_sets, (fun i hi => rfl), (fun k hk => rfl), by rw [ht]; exact hP9, hD9⟩, hS.F ht⟩) hS.2.2 dX12_give_169
                · have hP9 := hP.sub (ws' := [(h0, .inr (12, mG q i_taped i_size i_sort i_what i_at i_end i_worth i_faultKind i_faultPlace i_got i_worked (nI dl) i_isPlanned i_bestDone i_bestCost)), (q 51, .inl (E.2.1 0, 512, .inl a_least)), (q 55, .inl (E.2.1 0, 4, .inl a_sets)), (q 54, .inl (E.2.1 0, 7, .inl a_bestGiven)), (q 53, .inl (E.2.1 0, 7, .inl a_given))]) [0, 1, 2, 3, 4] rfl
                  have hD9 := hD.sub (ws' := [(h0, .inr (12, mG q i_taped i_size i_sort i_what i_at i_end i_worth i_faultKind i_faultPlace i_got i_worked (nI dl) i_isPlanned i_bestDone i_bestCost)), (q 51, .inl (E.2.1 0, 512, .inl a_least)), (q 55, .inl (E.2.1 0, 4, .inl a_sets)), (q 54, .inl (E.2.1 0, 7, .inl a_bestGiven)), (q 53, .inl (E.2.1 0, 7, .inl a_given))]) [0, 1, 2, 3, 4] (by decide) rfl
                  exact W.vret hx hb hr (fun t ht hW => ⟨⟨(i_bestDone, i_bestCost, a_sets, a_bestGiven, a_given), rfl, (BG_post hn9 (BG_old hdl hp9 (Or.inr ⟨(by rw [← hcn9]; exact gx_eq (by omega) c_207), (by rw [← hc39.1]; exact gx_le c_209)⟩) hB9)), hI_sets, (fun i hi => rfl), (fun k hk => rfl), by rw [ht]; exact hP9, hD9⟩, hS.F ht⟩) hS.2.2 dX12_give_126
          · have hP9 := hP.sub (ws' := [(h0, .inr (12, mG q i_taped i_size i_sort i_what i_at i_end i_worth i_faultKind i_faultPlace i_got i_worked (nI dl) i_isPlanned i_bestDone i_bestCost)), (q 51, .inl (E.2.1 0, 512, .inl a_least)), (q 55, .inl (E.2.1 0, 4, .inl a_sets)), (q 54, .inl (E.2.1 0, 7, .inl a_bestGiven)), (q 53, .inl (E.2.1 0, 7, .inl a_given))]) [0, 1, 2, 3, 4] rfl
            have hD9 := hD.sub (ws' := [(h0, .inr (12, mG q i_taped i_size i_sort i_what i_at i_end i_worth i_faultKind i_faultPlace i_got i_worked (nI dl) i_isPlanned i_bestDone i_bestCost)), (q 51, .inl (E.2.1 0, 512, .inl a_least)), (q 55, .inl (E.2.1 0, 4, .inl a_sets)), (q 54, .inl (E.2.1 0, 7, .inl a_bestGiven)), (q 53, .inl (E.2.1 0, 7, .inl a_given))]) [0, 1, 2, 3, 4] (by decide) rfl
            exact W.vret hx hb hr (fun t ht hW => ⟨⟨(i_bestDone, i_bestCost, a_sets, a_bestGiven, a_given), rfl, (BG_post hn9 (BG_inf hp9 (c := 3) (by decide) (fun q9 => absurd ((hKm 3 (by decide) w_192 (by omega)).1.mpr (by rw [hw39]; exact q9)) (fun r9 => r9 (by rw [← nI_clamp (n := 128 * 3 + w_192) (by omega)]; exact ex_197.symm.trans c_198))) hB9)), hI_sets, (fun i hi => rfl), (fun k hk => rfl), by rw [ht]; exact hP9, hD9⟩, hS.F ht⟩) hS.2.2 dX12_give_44
        · have hP9 := hP.sub (ws' := [(h0, .inr (12, mG q i_taped i_size i_sort i_what i_at i_end i_worth i_faultKind i_faultPlace i_got i_worked (nI dl) i_isPlanned i_bestDone i_bestCost)), (q 51, .inl (E.2.1 0, 512, .inl a_least)), (q 55, .inl (E.2.1 0, 4, .inl a_sets)), (q 54, .inl (E.2.1 0, 7, .inl a_bestGiven)), (q 53, .inl (E.2.1 0, 7, .inl a_given))]) [0, 1, 2, 3, 4] rfl
          have hD9 := hD.sub (ws' := [(h0, .inr (12, mG q i_taped i_size i_sort i_what i_at i_end i_worth i_faultKind i_faultPlace i_got i_worked (nI dl) i_isPlanned i_bestDone i_bestCost)), (q 51, .inl (E.2.1 0, 512, .inl a_least)), (q 55, .inl (E.2.1 0, 4, .inl a_sets)), (q 54, .inl (E.2.1 0, 7, .inl a_bestGiven)), (q 53, .inl (E.2.1 0, 7, .inl a_given))]) [0, 1, 2, 3, 4] (by decide) rfl
          exact W.vret hx hb hr (fun t ht hW => ⟨⟨(i_bestDone, i_bestCost, a_sets, a_bestGiven, a_given), rfl, (BG_post hn9 (BG_inf hp9 (c := 2) (by decide) (fun q9 => absurd ((hKm 2 (by decide) w_175 (by omega)).1.mpr (by rw [hw29]; exact q9)) (fun r9 => r9 (by rw [← nI_clamp (n := 128 * 2 + w_175) (by omega)]; exact ex_180.symm.trans c_181))) hB9)), hI_sets, (fun i hi => rfl), (fun k hk => rfl), by rw [ht]; exact hP9, hD9⟩, hS.F ht⟩) hS.2.2 dX12_give_44
      · have hP9 := hP.sub (ws' := [(h0, .inr (12, mG q i_taped i_size i_sort i_what i_at i_end i_worth i_faultKind i_faultPlace i_got i_worked (nI dl) i_isPlanned i_bestDone i_bestCost)), (q 51, .inl (E.2.1 0, 512, .inl a_least)), (q 55, .inl (E.2.1 0, 4, .inl a_sets)), (q 54, .inl (E.2.1 0, 7, .inl a_bestGiven)), (q 53, .inl (E.2.1 0, 7, .inl a_given))]) [0, 1, 2, 3, 4] rfl
        have hD9 := hD.sub (ws' := [(h0, .inr (12, mG q i_taped i_size i_sort i_what i_at i_end i_worth i_faultKind i_faultPlace i_got i_worked (nI dl) i_isPlanned i_bestDone i_bestCost)), (q 51, .inl (E.2.1 0, 512, .inl a_least)), (q 55, .inl (E.2.1 0, 4, .inl a_sets)), (q 54, .inl (E.2.1 0, 7, .inl a_bestGiven)), (q 53, .inl (E.2.1 0, 7, .inl a_given))]) [0, 1, 2, 3, 4] (by decide) rfl
        exact W.vret hx hb hr (fun t ht hW => ⟨⟨(i_bestDone, i_bestCost, a_sets, a_bestGiven, a_given), rfl, (BG_post hn9 (BG_inf hp9 (c := 1) (by decide) (fun q9 => absurd ((hKm 1 (by decide) w_158 (by omega)).1.mpr (by rw [hw19]; exact q9)) (fun r9 => r9 (by rw [← nI_clamp (n := 128 * 1 + w_158) (by omega)]; exact ex_163.symm.trans c_164))) hB9)), hI_sets, (fun i hi => rfl), (fun k hk => rfl), by rw [ht]; exact hP9, hD9⟩, hS.F ht⟩) hS.2.2 dX12_give_44
    · have hP9 := hP.sub (ws' := [(h0, .inr (12, mG q i_taped i_size i_sort i_what i_at i_end i_worth i_faultKind i_faultPlace i_got i_worked (nI dl) i_isPlanned i_bestDone i_bestCost)), (q 51, .inl (E.2.1 0, 512, .inl a_least)), (q 55, .inl (E.2.1 0, 4, .inl a_sets)), (q 54, .inl (E.2.1 0, 7, .inl a_bestGiven)), (q 53, .inl (E.2.1 0, 7, .inl a_given))]) [0, 1, 2, 3, 4] rfl
      have hD9 := hD.sub (ws' := [(h0, .inr (12, mG q i_taped i_size i_sort i_what i_at i_end i_worth i_faultKind i_faultPlace i_got i_worked (nI dl) i_isPlanned i_bestDone i_bestCost)), (q 51, .inl (E.2.1 0, 512, .inl a_least)), (q 55, .inl (E.2.1 0, 4, .inl a_sets)), (q 54, .inl (E.2.1 0, 7, .inl a_bestGiven)), (q 53, .inl (E.2.1 0, 7, .inl a_given))]) [0, 1, 2, 3, 4] (by decide) rfl
      exact W.vret hx hb hr (fun t ht hW => ⟨⟨(i_bestDone, i_bestCost, a_sets, a_bestGiven, a_given), rfl, (BG_post hn9 (BG_inf hp9 (c := 0) (by decide) (fun q9 => absurd ((hKm 0 (by decide) w_141 (by omega)).1.mpr (by rw [hw09]; exact q9)) (fun r9 => r9 (by rw [← nI_clamp (n := 128 * 0 + w_141) (by omega)]; exact ex_146.symm.trans c_147))) hB9)), hI_sets, (fun i hi => rfl), (fun k hk => rfl), by rw [ht]; exact hP9, hD9⟩, hS.F ht⟩) hS.2.2 dX12_give_44
