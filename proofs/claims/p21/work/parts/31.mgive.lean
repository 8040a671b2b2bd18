set_option maxHeartbeats 4000000 in
set_option maxRecDepth 100000 in
theorem lm_bits {p : Program} {l : Launch} {e : Env} {R : Room} {s : State} {m : MethodId} {args : Array Value} {below : List Frame} {meth : Method} {c : Code} {cells slots : Nat} {Q : State → Prop} {A : Nat → Prop} (E : vE) (h0 : Nat) (q : Nat → Nat) (i_taped : Int32) (i_size : Int32) (i_sort : Int32) (i_what : Int32) (i_at : Int32) (i_end : Int32) (i_worth : Int32) (i_faultKind : Int32) (i_faultPlace : Int32) (i_got : Int32) (i_worked : Int32) (i_isPlanned : Int32) (i_bestDone : Int32) (i_bestCost : Int32) (dl : Nat) (co3 : Int32) (c4 : Int32) (wr : va_W) (hx : p.tables.exec = Jvm.exec) (hb : c.code = cX12_give) (hml : c.maxLocals = 6) (hown : s.vm.findClass RX12 = some m.cls) (hts : ∀ w ∈ wsX12_give, w.before args s = true) (hkn : kn E s) (hst : st E A s s.heap) (hA : ∀ q : Nat, s.heap.size ≤ q → A q) (kk : ∀ (dn : Int32) (H : Heap) (locs : List Loc) (ls : Array Slot), va_P E.1 vwCl ((h0, .inr (12, mG q i_taped i_size i_sort i_what i_at i_end i_worth i_faultKind i_faultPlace i_got i_worked (nI dl) i_isPlanned i_bestDone i_bestCost)) :: wr) H → va_D A ((h0, .inr (12, mG q i_taped i_size i_sort i_what i_at i_end i_worth i_faultKind i_faultPlace i_got i_worked (nI dl) i_isPlanned i_bestDone i_bestCost)) :: wr) → va_S A s.heap H locs → lv_has ls 6 [(0, .ref h0), (2, .int dn), (3, .int co3), (4, .int c4)] → W p l e R s m args below meth c H locs cells slots Q (F0 m 96 ls [])) : ∀ (n0 : Nat) (bv : Nat) (dn : Int32) (H : Heap) (locs : List Loc) (ls : Array Slot), bv < n0 → va_P E.1 vwCl ((h0, .inr (12, mG q i_taped i_size i_sort i_what i_at i_end i_worth i_faultKind i_faultPlace i_got i_worked (nI dl) i_isPlanned i_bestDone i_bestCost)) :: wr) H → va_D A ((h0, .inr (12, mG q i_taped i_size i_sort i_what i_at i_end i_worth i_faultKind i_faultPlace i_got i_worked (nI dl) i_isPlanned i_bestDone i_bestCost)) :: wr) → va_S A s.heap H locs → lv_has ls 6 [(0, .ref h0), (2, .int dn), (3, .int co3), (4, .int c4), (5, .int (nI bv))] → W p l e R s m args below meth c H locs cells slots Q (F0 m 76 ls []) := by
  have hK := hkn.1
  have hAO := hkn.2.2.1
  have fl130 := hts (.fieldLink RX12 130 "BoatsHomeModel" "least" "[I") (by first | exact List.mem_of_getElem? (i := 2) rfl | decide +kernel)
  have fl136 := hts (.fieldLink RX12 136 "BoatsHomeModel" "given" "[I") (by first | exact List.mem_of_getElem? (i := 7) rfl | decide +kernel)
  have fl139 := hts (.fieldLink RX12 139 "BoatsHomeModel" "bestGiven" "[I") (by first | exact List.mem_of_getElem? (i := 6) rfl | decide +kernel)
  have fl142 := hts (.fieldLink RX12 142 "BoatsHomeModel" "sets" "[I") (by first | exact List.mem_of_getElem? (i := 3) rfl | decide +kernel)
  have fl289 := hts (.fieldLink RX12 289 "BoatsHomeModel" "deliveries" "I") (by first | exact List.mem_of_getElem? (i := 1) rfl | decide +kernel)
  have fl300 := hts (.fieldLink RX12 300 "BoatsHomeModel" "bestDone" "I") (by first | exact List.mem_of_getElem? (i := 4) rfl | decide +kernel)
  have fl303 := hts (.fieldLink RX12 303 "BoatsHomeModel" "bestCost" "I") (by first | exact List.mem_of_getElem? (i := 5) rfl | decide +kernel)
  have inX12 : ∀ w ∈ u_ws RX12 TX12 59, w ∈ wsX12_give := by first | exact fun w h9 => (List.mem_cons_of_mem _ (List.mem_append_right _ h9)) | decide +kernel
  intro n0
  induction n0 with
  | zero =>
    intro bv dn H locs ls hn0
    exact absurd hn0 (Nat.not_lt_zero _)
  | succ n0 ih =>
    intro bv dn H locs ls hn0  hP hD hS hl
    refine lv_iload hx hb dX12_give_76 (lv_at hl 4 rfl) ?_
    refine lv_if_eq (tgt := 96) hx hb dX12_give_78 (by decide) (fun c_1 => ?_) (fun c_1 => ?_)
    · exact kk dn _ _ _  hP hD hS (lv_sub hl [0, 1, 2, 3] rfl)
    · have hp0 : 0 < bv := by
        rcases Nat.eq_zero_or_pos bv with q | q
        · exact absurd (by rw [q]; rfl) c_1
        · exact q
      obtain ⟨x_2, ex_2⟩ : ∃ y : Int32, y = dn + 1 := ⟨_, rfl⟩
      refine lv_iinc (v := x_2) (lv' := [(2, .int x_2), (0, .ref h0), (3, .int co3), (4, .int c4), (5, .int (nI bv))]) hx hb dX12_give_81 hl (k := 1) rfl (by rw [ex_2]; rfl) (by decide) rfl (fun ls hl => ?_)
      refine lv_iload hx hb dX12_give_84 (lv_at hl 4 rfl) ?_
      refine lv_iload hx hb dX12_give_86 (lv_at hl 4 rfl) ?_
      refine lv_iconst (v := 1) hx hb dX12_give_88 (by decide) ?_
      refine lv_isub hx hb dX12_give_89 ?_
      refine lv_topi (fun x_3 ex_3 => ?_)
      obtain rfl : x_3 = nI (bv - 1) := ex_3.trans (nI_dec hp0)
      refine lv_iand hx hb dX12_give_90 ?_
      refine lv_topi (fun x_4 ex_4 => ?_)
      obtain rfl : x_4 = nI (bv &&& (bv - 1)) := ex_4.trans (nI_and bv (bv - 1))
      refine lv_istore (lv' := [(5, .int (nI (bv &&& (bv - 1)))), (2, .int x_2), (0, .ref h0), (3, .int co3), (4, .int c4)]) hx hb dX12_give_91 hl (by decide) rfl (fun ls hl => ?_)
      refine lv_goto (tgt := 76) hx hb dX12_give_93 (by decide) ?_
      exact ih (bv &&& (bv - 1)) x_2 _ _ _ (by have := @Nat.and_le_right bv (bv - 1); omega) hP hD hS (lv_sub hl [2, 1, 3, 4, 0] rfl)
set_option maxHeartbeats 4000000 in
set_option maxRecDepth 100000 in
theorem lm_copy {p : Program} {l : Launch} {e : Env} {R : Room} {s : State} {m : MethodId} {args : Array Value} {below : List Frame} {meth : Method} {c : Code} {cells slots : Nat} {Q : State → Prop} {A : Nat → Prop} (E : vE) (h0 : Nat) (q : Nat → Nat) (i_taped : Int32) (i_size : Int32) (i_sort : Int32) (i_what : Int32) (i_at : Int32) (i_end : Int32) (i_worth : Int32) (i_faultKind : Int32) (i_faultPlace : Int32) (i_got : Int32) (i_worked : Int32) (i_isPlanned : Int32) (i_bestDone : Int32) (i_bestCost : Int32) (dl : Nat) (a_given : Nat → Int32) (wr : va_W) (hx : p.tables.exec = Jvm.exec) (hb : c.code = cX12_give) (hml : c.maxLocals = 6) (hown : s.vm.findClass RX12 = some m.cls) (hts : ∀ w ∈ wsX12_give, w.before args s = true) (hkn : kn E s) (hst : st E A s s.heap) (hA : ∀ q : Nat, s.heap.size ≤ q → A q) (hdl : dl ≤ 7) (kk : ∀ (a_bestGiven : Nat → Int32) (H : Heap) (locs : List Loc) (ls : Array Slot), va_P E.1 vwCl ((h0, .inr (12, mG q i_taped i_size i_sort i_what i_at i_end i_worth i_faultKind i_faultPlace i_got i_worked (nI dl) i_isPlanned i_bestDone i_bestCost)) :: (q 53, .inl (E.2.1 0, 7, .inl a_given)) :: (q 54, .inl (E.2.1 0, 7, .inl a_bestGiven)) :: wr) H → va_D A ((h0, .inr (12, mG q i_taped i_size i_sort i_what i_at i_end i_worth i_faultKind i_faultPlace i_got i_worked (nI dl) i_isPlanned i_bestDone i_bestCost)) :: (q 53, .inl (E.2.1 0, 7, .inl a_given)) :: (q 54, .inl (E.2.1 0, 7, .inl a_bestGiven)) :: wr) → va_S A s.heap H locs → lv_has ls 6 [(0, .ref h0)] → W p l e R s m args below meth c H locs cells slots Q (F0 m 169 ls [])) : ∀ (n0 : Nat) (k : Nat) (a_bestGiven : Nat → Int32) (H : Heap) (locs : List Loc) (ls : Array Slot), 8 - k < n0 → (k ≤ 7) → va_P E.1 vwCl ((h0, .inr (12, mG q i_taped i_size i_sort i_what i_at i_end i_worth i_faultKind i_faultPlace i_got i_worked (nI dl) i_isPlanned i_bestDone i_bestCost)) :: (q 53, .inl (E.2.1 0, 7, .inl a_given)) :: (q 54, .inl (E.2.1 0, 7, .inl a_bestGiven)) :: wr) H → va_D A ((h0, .inr (12, mG q i_taped i_size i_sort i_what i_at i_end i_worth i_faultKind i_faultPlace i_got i_worked (nI dl) i_isPlanned i_bestDone i_bestCost)) :: (q 53, .inl (E.2.1 0, 7, .inl a_given)) :: (q 54, .inl (E.2.1 0, 7, .inl a_bestGiven)) :: wr) → va_S A s.heap H locs → lv_has ls 6 [(0, .ref h0), (4, .int (nI k))] → W p l e R s m args below meth c H locs cells slots Q (F0 m 140 ls []) := by
  have hK := hkn.1
  have hAO := hkn.2.2.1
  have fl130 := hts (.fieldLink RX12 130 "BoatsHomeModel" "least" "[I") (by first | exact List.mem_of_getElem? (i := 2) rfl | decide +kernel)
  have fl136 := hts (.fieldLink RX12 136 "BoatsHomeModel" "given" "[I") (by first | exact List.mem_of_getElem? (i := 7) rfl | decide +kernel)
  have fl139 := hts (.fieldLink RX12 139 "BoatsHomeModel" "bestGiven" "[I") (by first | exact List.mem_of_getElem? (i := 6) rfl | decide +kernel)
  have fl142 := hts (.fieldLink RX12 142 "BoatsHomeModel" "sets" "[I") (by first | exact List.mem_of_getElem? (i := 3) rfl | decide +kernel)
  have fl289 := hts (.fieldLink RX12 289 "BoatsHomeModel" "deliveries" "I") (by first | exact List.mem_of_getElem? (i := 1) rfl | decide +kernel)
  have fl300 := hts (.fieldLink RX12 300 "BoatsHomeModel" "bestDone" "I") (by first | exact List.mem_of_getElem? (i := 4) rfl | decide +kernel)
  have fl303 := hts (.fieldLink RX12 303 "BoatsHomeModel" "bestCost" "I") (by first | exact List.mem_of_getElem? (i := 5) rfl | decide +kernel)
  have inX12 : ∀ w ∈ u_ws RX12 TX12 59, w ∈ wsX12_give := by first | exact fun w h9 => (List.mem_cons_of_mem _ (List.mem_append_right _ h9)) | decide +kernel
  intro n0
  induction n0 with
  | zero =>
    intro k a_bestGiven H locs ls hn0
    exact absurd hn0 (Nat.not_lt_zero _)
  | succ n0 ih =>
    intro k a_bestGiven H locs ls hn0 hk hP hD hS hl
    refine lv_iload hx hb dX12_give_140 (lv_at hl 1 rfl) ?_
    refine lv_aload_n hx hb dX12_give_142 rfl (lv_at hl 0 rfl) ?_
    refine va_get (D := E.1) (ci := 12) (v := .int (nI dl)) (C := RX12) (T := TX12) (N := 59) hx hb hts inX12 hown hK hP 0 rfl rfl 41 (by decide) fl289 (fun _ h9 => h9) rfl dX12_give_143 ?_
    refine lv_icmp_ge (tgt := 169) hx hb dX12_give_146 (by decide) (fun c_1 => ?_) (fun c_1 => ?_)
    · exact kk a_bestGiven _ _ _  hP hD hS (lv_sub hl [0] rfl)
    · have hlt : k < 7 := by have := lt_of_nle (by omega) c_1; omega
      refine lv_aload_n hx hb dX12_give_149 rfl (lv_at hl 0 rfl) ?_
      refine va_get (D := E.1) (ci := 12) (v := .ref (q 54)) (C := RX12) (T := TX12) (N := 59) hx hb hts inX12 hown hK hP 0 rfl rfl 54 (by decide) fl139 (fun _ h9 => h9) rfl dX12_give_150 ?_
      refine lv_iload hx hb dX12_give_153 (lv_at hl 1 rfl) ?_
      refine lv_aload_n hx hb dX12_give_155 rfl (lv_at hl 0 rfl) ?_
      refine va_get (D := E.1) (ci := 12) (v := .ref (q 53)) (C := RX12) (T := TX12) (N := 59) hx hb hts inX12 hown hK hP 0 rfl rfl 53 (by decide) fl136 (fun _ h9 => h9) rfl dX12_give_156 ?_
      refine lv_iload hx hb dX12_give_159 (lv_at hl 1 rfl) ?_
      have hi_2 : vp_in (nI k) 7 := vp_in_nI (by omega) (by decide)
      refine va_iald hx hb hK hP 1 0 rfl rfl hi_2 dX12_give_161 ?_
      refine lv_topi (fun x_3 ex_3 => ?_)
      refine va_iast hx hb hK hP hD hS 2 0 rfl rfl hi_2 dX12_give_162 (fun H locs hP hD hS => ?_)
      have hP : va_P E.1 vwCl ((h0, .inr (12, mG q i_taped i_size i_sort i_what i_at i_end i_worth i_faultKind i_faultPlace i_got i_worked (nI dl) i_isPlanned i_bestDone i_bestCost)) :: (q 53, .inl (E.2.1 0, 7, .inl a_given)) :: (q 54, .inl (E.2.1 0, 7, .inl (upd a_bestGiven (nI k).toNatClampNeg x_3))) :: wr) H := hP
      have hD : va_D A ((h0, .inr (12, mG q i_taped i_size i_sort i_what i_at i_end i_worth i_faultKind i_faultPlace i_got i_worked (nI dl) i_isPlanned i_bestDone i_bestCost)) :: (q 53, .inl (E.2.1 0, 7, .inl a_given)) :: (q 54, .inl (E.2.1 0, 7, .inl (upd a_bestGiven (nI k).toNatClampNeg x_3))) :: wr) := hD
      obtain ⟨f_4, ef_4⟩ : ∃ g : Nat → Int32, g = upd a_bestGiven (nI k).toNatClampNeg x_3 := ⟨_, rfl⟩
      rw [← ef_4] at hP hD
      refine lv_iinc (v := (nI (k + 1))) (lv' := [(4, .int (nI (k + 1))), (0, .ref h0)]) hx hb dX12_give_163 hl (k := 1) rfl (show nI k + 1 = nI (k + 1) from nI_1 k) (by decide) rfl (fun ls hl => ?_)
      refine lv_goto (tgt := 140) hx hb dX12_give_166 (by decide) ?_
      exact ih (k + 1) f_4 _ _ _ (by omega) (by omega) hP hD hS (lv_sub hl [1, 0] rfl)
set_option maxHeartbeats 4000000 in
set_option maxRecDepth 100000 in
theorem c_X12_give7 (l : Launch) (E : vE) (h0 : Nat) (q : Nat → Nat) (i_taped : Int32) (i_size : Int32) (i_sort : Int32) (i_what : Int32) (i_at : Int32) (i_end : Int32) (i_worth : Int32) (i_faultKind : Int32) (i_faultPlace : Int32) (i_got : Int32) (i_worked : Int32) (i_isPlanned : Int32) (i_bestDone : Int32) (i_bestCost : Int32) (dl : Nat) (a_least : Nat → Int32) (a_sets : Nat → Int32) (a_bestGiven : Nat → Int32) (a_given : Nat → Int32) (sz : Nat) (hdl : dl ≤ 7) (hd : 7 ≤ dl) (hI_sets : ∀ k : Nat, k < 4 → inR (a_sets k) 0 127 = true) : Met l yX12_give wsX12_give ({ frames := 0, cells := 0, slots := 0, locals := 0 }) (pcW E [.ref h0, .int 7] sz [(h0, .inr (12, mG q i_taped i_size i_sort i_what i_at i_end i_worth i_faultKind i_faultPlace i_got i_worked (nI dl) i_isPlanned i_bestDone i_bestCost)), (q 51, .inl (E.2.1 0, 512, .inl a_least)), (q 55, .inl (E.2.1 0, 4, .inl a_sets)), (q 54, .inl (E.2.1 0, 7, .inl a_bestGiven)), (q 53, .inl (E.2.1 0, 7, .inl a_given))]) (va_Qv (fun (u : Int32 × Int32 × (Nat → Int32) × (Nat → Int32) × (Nat → Int32)) => match u with | (bd2, bc2, b_sets, b_bestGiven, b_given) => True) (fun (u : Int32 × Int32 × (Nat → Int32) × (Nat → Int32) × (Nat → Int32)) (t : State) => match u with | (bd2, bc2, b_sets, b_bestGiven, b_given) => (∀ k : Nat, k < 4 → inR (b_sets k) 0 127 = true) ∧ wB E (va_A [(h0, .inr (12, mG q i_taped i_size i_sort i_what i_at i_end i_worth i_faultKind i_faultPlace i_got i_worked (nI dl) i_isPlanned i_bestDone i_bestCost)), (q 51, .inl (E.2.1 0, 512, .inl a_least)), (q 55, .inl (E.2.1 0, 4, .inl a_sets)), (q 54, .inl (E.2.1 0, 7, .inl a_bestGiven)), (q 53, .inl (E.2.1 0, 7, .inl a_given))] sz) [(h0, .inr (12, mG q i_taped i_size i_sort i_what i_at i_end i_worth i_faultKind i_faultPlace i_got i_worked (nI dl) i_isPlanned bd2 bc2)), (q 51, .inl (E.2.1 0, 512, .inl a_least)), (q 55, .inl (E.2.1 0, 4, .inl b_sets)), (q 54, .inl (E.2.1 0, 7, .inl b_bestGiven)), (q 53, .inl (E.2.1 0, 7, .inl b_given))] t) (va_A [(h0, .inr (12, mG q i_taped i_size i_sort i_what i_at i_end i_worth i_faultKind i_faultPlace i_got i_worked (nI dl) i_isPlanned i_bestDone i_bestCost)), (q 51, .inl (E.2.1 0, 512, .inl a_least)), (q 55, .inl (E.2.1 0, 4, .inl a_sets)), (q 54, .inl (E.2.1 0, 7, .inl a_bestGiven)), (q 53, .inl (E.2.1 0, 7, .inl a_given))] sz)) 0 0 (va_A [(h0, .inr (12, mG q i_taped i_size i_sort i_what i_at i_end i_worth i_faultKind i_faultPlace i_got i_worked (nI dl) i_isPlanned i_bestDone i_bestCost)), (q 51, .inl (E.2.1 0, 512, .inl a_least)), (q 55, .inl (E.2.1 0, 4, .inl a_sets)), (q 54, .inl (E.2.1 0, 7, .inl a_bestGiven)), (q 53, .inl (E.2.1 0, 7, .inl a_given))] sz) := by
  refine Met.ofW (cc := cX12_give) (maxL := 6) (ret := none) (by decide) rfl ?_
  intro p e s m args below meth c s₁ B hml hv
  obtain ⟨rfl, hsz, hP, hkn, hD0, hst⟩ := hv
  have hx := B.exec
  have hb := B.bytes
  have hr := B.returns
  have hts := atoms_spec (ws := wsX12_give) B.pre
  have hown : s.vm.findClass RX12 = some m.cls := findClass_of_methodNamed B.named
  have hlocks := B.notSynchronized
  subst hsz
  have hD := hD0.self (sz := s.heap.size)
  have hK := hkn.1
  have hAO := hkn.2.2.1
  generalize hAe : va_A [(h0, .inr (12, mG q i_taped i_size i_sort i_what i_at i_end i_worth i_faultKind i_faultPlace i_got i_worked (nI dl) i_isPlanned i_bestDone i_bestCost)), (q 51, .inl (E.2.1 0, 512, .inl a_least)), (q 55, .inl (E.2.1 0, 4, .inl a_sets)), (q 54, .inl (E.2.1 0, 7, .inl a_bestGiven)), (q 53, .inl (E.2.1 0, 7, .inl a_given))] s.heap.size = A at hD hst ⊢
  have hA : ∀ q : Nat, s.heap.size ≤ q → A q := fun q h => by rw [← hAe]; exact Or.inr h
  have hS : va_S A s.heap s.heap [] := va_S.rf
  have hP : va_P E.1 vwCl [(h0, .inr (12, mG q i_taped i_size i_sort i_what i_at i_end i_worth i_faultKind i_faultPlace i_got i_worked (nI dl) i_isPlanned i_bestDone i_bestCost)), (q 51, .inl (E.2.1 0, 512, .inl a_least)), (q 55, .inl (E.2.1 0, 4, .inl a_sets)), (q 54, .inl (E.2.1 0, 7, .inl a_bestGiven)), (q 53, .inl (E.2.1 0, 7, .inl a_given))] s.heap := hP
  have hl := lv_entry ([.ref h0, .int 7]) (n := 6) (Nat.le_of_ble_eq_true rfl)
  rw [lg_entry_eq]
  generalize (lg_sl ([.ref h0, .int 7]) ++ List.replicate (6 - (lg_sl ([.ref h0, .int 7])).length) Slot.unset).toArray = ls at hl ⊢
  have hl : lv_has ls 6 [(0, .ref h0), (1, .int 7)] := hl
  have fl130 := hts (.fieldLink RX12 130 "BoatsHomeModel" "least" "[I") (by first | exact List.mem_of_getElem? (i := 2) rfl | decide +kernel)
  have fl136 := hts (.fieldLink RX12 136 "BoatsHomeModel" "given" "[I") (by first | exact List.mem_of_getElem? (i := 7) rfl | decide +kernel)
  have fl139 := hts (.fieldLink RX12 139 "BoatsHomeModel" "bestGiven" "[I") (by first | exact List.mem_of_getElem? (i := 6) rfl | decide +kernel)
  have fl142 := hts (.fieldLink RX12 142 "BoatsHomeModel" "sets" "[I") (by first | exact List.mem_of_getElem? (i := 3) rfl | decide +kernel)
  have fl289 := hts (.fieldLink RX12 289 "BoatsHomeModel" "deliveries" "I") (by first | exact List.mem_of_getElem? (i := 1) rfl | decide +kernel)
  have fl300 := hts (.fieldLink RX12 300 "BoatsHomeModel" "bestDone" "I") (by first | exact List.mem_of_getElem? (i := 4) rfl | decide +kernel)
  have fl303 := hts (.fieldLink RX12 303 "BoatsHomeModel" "bestCost" "I") (by first | exact List.mem_of_getElem? (i := 5) rfl | decide +kernel)
  have inX12 : ∀ w ∈ u_ws RX12 TX12 59, w ∈ wsX12_give := by first | exact fun w h9 => (List.mem_cons_of_mem _ (List.mem_append_right _ h9)) | decide +kernel
  refine lv_iload_n hx hb dX12_give_0 rfl (lv_at hl 1 rfl) ?_
  refine lv_aload_n hx hb dX12_give_1 rfl (lv_at hl 0 rfl) ?_
  refine va_get (D := E.1) (ci := 12) (v := .int (nI dl)) (C := RX12) (T := TX12) (N := 59) hx hb hts inX12 hown hK hP 0 rfl rfl 41 (by decide) fl289 (fun _ h9 => h9) rfl dX12_give_2 ?_
  refine lv_icmp_ne (tgt := 170) hx hb dX12_give_5 (by decide) (fun c9 => absurd c9 (fun h => h (by rw [show dl = 7 by omega]; rfl))) (fun c9 => ?_)
  refine lv_iconst (v := 0) hx hb dX12_give_8 (by decide) ?_
  refine lv_istore_n (lv' := [(2, .int 0), (0, .ref h0), (1, .int 7)]) hx hb dX12_give_9 rfl hl (by decide) rfl (fun ls hl => ?_)
  refine lv_iconst (v := 0) hx hb dX12_give_10 (by decide) ?_
  refine lv_istore_n (lv' := [(3, .int 0), (2, .int 0), (0, .ref h0), (1, .int 7)]) hx hb dX12_give_11 rfl hl (by decide) rfl (fun ls hl => ?_)
  refine lv_iconst (v := 0) hx hb dX12_give_12 (by decide) ?_
  refine lv_istore (lv' := [(4, .int 0), (3, .int 0), (2, .int 0), (0, .ref h0), (1, .int 7)]) hx hb dX12_give_13 hl (by decide) rfl (fun ls hl => ?_)
  refine lv_iload hx hb dX12_give_15 (lv_at hl 0 rfl) ?_
  refine lv_iconst (v := 4) hx hb dX12_give_17 (by decide) ?_
  refine lv_icmp_ge (tgt := 102) hx hb dX12_give_18 (by decide) (fun c9 => absurd c9 (by decide)) (fun _ => ?_)
  refine lv_aload_n hx hb dX12_give_21 rfl (lv_at hl 3 rfl) ?_
  refine va_get (D := E.1) (ci := 12) (v := .ref (q 51)) (C := RX12) (T := TX12) (N := 59) hx hb hts inX12 hown hK hP 0 rfl rfl 51 (by decide) fl130 (fun _ h9 => h9) rfl dX12_give_22 ?_
  refine lv_sipush (v := 128) hx hb dX12_give_25 (by decide) ?_
  refine lv_iload hx hb dX12_give_28 (lv_at hl 0 rfl) ?_
  refine lv_imul hx hb dX12_give_30 ?_
  refine lv_topi (fun x_1 ex_1 => ?_)
  obtain rfl : x_1 = 0 := ex_1.trans (by decide +kernel)
  refine lv_aload_n hx hb dX12_give_31 rfl (lv_at hl 3 rfl) ?_
  refine va_get (D := E.1) (ci := 12) (v := .ref (q 55)) (C := RX12) (T := TX12) (N := 59) hx hb hts inX12 hown hK hP 0 rfl rfl 55 (by decide) fl142 (fun _ h9 => h9) rfl dX12_give_32 ?_
  refine lv_iload hx hb dX12_give_35 (lv_at hl 0 rfl) ?_
  refine va_iald hx hb hK hP 2 0 rfl rfl (show vp_in 0 4 from by unfold vp_in; decide) dX12_give_37 ?_
  refine lv_topi (fun x_2 ex_2 => ?_)
  have hv_3 : inR x_2 0 127 = true := by rw [ex_2]; exact hI_sets _ (vin_cl (show vp_in 0 4 from by unfold vp_in; decide))
  obtain ⟨w_4, hw_5, ew_6⟩ := inR_nI (n := 127) (by decide) hv_3
  subst ew_6
  refine lv_iadd hx hb dX12_give_38 ?_
  refine lv_topi (fun x_7 ex_7 => ?_)
  obtain rfl : x_7 = nI (0 + w_4) := ex_7.trans (nI_add 0 w_4)
  have hi_8 : vp_in (nI (0 + w_4)) 512 := vp_in_nI (by omega) (by decide)
  refine va_iald hx hb hK hP 1 0 rfl rfl hi_8 dX12_give_39 ?_
  refine lv_topi (fun x_9 ex_9 => ?_)
  refine lv_iconst (v := (-1)) hx hb dX12_give_40 (by decide) ?_
  refine lv_icmp_ne (tgt := 45) hx hb dX12_give_41 (by decide) (fun c_10 => ?_) (fun c_10 => ?_)
  · refine lv_iload_n hx hb dX12_give_45 rfl (lv_at hl 1 rfl) ?_
    refine lv_aload_n hx hb dX12_give_46 rfl (lv_at hl 3 rfl) ?_
    refine va_get (D := E.1) (ci := 12) (v := .ref (q 51)) (C := RX12) (T := TX12) (N := 59) hx hb hts inX12 hown hK hP 0 rfl rfl 51 (by decide) fl130 (fun _ h9 => h9) rfl dX12_give_47 ?_
    refine lv_sipush (v := 128) hx hb dX12_give_50 (by decide) ?_
    refine lv_iload hx hb dX12_give_53 (lv_at hl 0 rfl) ?_
    refine lv_imul hx hb dX12_give_55 ?_
    refine lv_topi (fun x_11 ex_11 => ?_)
    obtain rfl : x_11 = 0 := ex_11.trans (by decide +kernel)
    refine lv_aload_n hx hb dX12_give_56 rfl (lv_at hl 3 rfl) ?_
    refine va_get (D := E.1) (ci := 12) (v := .ref (q 55)) (C := RX12) (T := TX12) (N := 59) hx hb hts inX12 hown hK hP 0 rfl rfl 55 (by decide) fl142 (fun _ h9 => h9) rfl dX12_give_57 ?_
    refine lv_iload hx hb dX12_give_60 (lv_at hl 0 rfl) ?_
    refine va_iald hx hb hK hP 2 0 rfl rfl (show vp_in 0 4 from by unfold vp_in; decide) dX12_give_62 ?_
    refine lv_topi (fun x_12 ex_12 => ?_)
    obtain rfl : x_12 = nI w_4 := ex_12.trans ex_2.symm
    refine lv_iadd hx hb dX12_give_63 ?_
    refine lv_topi (fun x_13 ex_13 => ?_)
    obtain rfl : x_13 = nI (0 + w_4) := ex_13.trans (nI_add 0 w_4)
    refine va_iald hx hb hK hP 1 0 rfl rfl hi_8 dX12_give_64 ?_
    refine lv_topi (fun x_14 ex_14 => ?_)
    refine lv_iadd hx hb dX12_give_65 ?_
    refine lv_topi (fun x_15 ex_15 => ?_)
    refine lv_istore_n (lv' := [(3, .int x_15), (4, .int 0), (2, .int 0), (0, .ref h0), (1, .int 7)]) hx hb dX12_give_66 rfl hl (by decide) rfl (fun ls hl => ?_)
    refine lv_aload_n hx hb dX12_give_67 rfl (lv_at hl 3 rfl) ?_
    refine va_get (D := E.1) (ci := 12) (v := .ref (q 55)) (C := RX12) (T := TX12) (N := 59) hx hb hts inX12 hown hK hP 0 rfl rfl 55 (by decide) fl142 (fun _ h9 => h9) rfl dX12_give_68 ?_
    refine lv_iload hx hb dX12_give_71 (lv_at hl 1 rfl) ?_
    refine va_iald hx hb hK hP 2 0 rfl rfl (show vp_in 0 4 from by unfold vp_in; decide) dX12_give_73 ?_
    refine lv_topi (fun x_16 ex_16 => ?_)
    obtain rfl : x_16 = nI w_4 := ex_16.trans ex_2.symm
    refine lv_istore (lv' := [(5, .int (nI w_4)), (3, .int x_15), (4, .int 0), (2, .int 0), (0, .ref h0), (1, .int 7)]) hx hb dX12_give_74 hl (by decide) rfl (fun ls hl => ?_)
    have hPl := hP.sub (ws' := [(h0, .inr (12, mG q i_taped i_size i_sort i_what i_at i_end i_worth i_faultKind i_faultPlace i_got i_worked (nI dl) i_isPlanned i_bestDone i_bestCost)), (q 51, .inl (E.2.1 0, 512, .inl a_least)), (q 55, .inl (E.2.1 0, 4, .inl a_sets)), (q 54, .inl (E.2.1 0, 7, .inl a_bestGiven)), (q 53, .inl (E.2.1 0, 7, .inl a_given))]) [0, 1, 2, 3, 4] rfl
    have hDl := hD.sub (ws' := [(h0, .inr (12, mG q i_taped i_size i_sort i_what i_at i_end i_worth i_faultKind i_faultPlace i_got i_worked (nI dl) i_isPlanned i_bestDone i_bestCost)), (q 51, .inl (E.2.1 0, 512, .inl a_least)), (q 55, .inl (E.2.1 0, 4, .inl a_sets)), (q 54, .inl (E.2.1 0, 7, .inl a_bestGiven)), (q 53, .inl (E.2.1 0, 7, .inl a_given))]) [0, 1, 2, 3, 4] (by decide) rfl
    refine lm_bits E h0 q i_taped i_size i_sort i_what i_at i_end i_worth i_faultKind i_faultPlace i_got i_worked i_isPlanned i_bestDone i_bestCost dl x_15 0 ([(q 51, .inl (E.2.1 0, 512, .inl a_least)), (q 55, .inl (E.2.1 0, 4, .inl a_sets)), (q 54, .inl (E.2.1 0, 7, .inl a_bestGiven)), (q 53, .inl (E.2.1 0, 7, .inl a_given))]) hx hb hml hown hts hkn hst hA  (fun n_17 H locs ls  hP hD hS hl => ?_) (w_4 + 1) w_4 0 _ _ _ (Nat.lt_succ_self _) hPl hDl hS (lv_sub hl [4, 3, 1, 2, 0] rfl)
    have hP : va_P E.1 vwCl [(h0, .inr (12, mG q i_taped i_size i_sort i_what i_at i_end i_worth i_faultKind i_faultPlace i_got i_worked (nI dl) i_isPlanned i_bestDone i_bestCost)), (q 51, .inl (E.2.1 0, 512, .inl a_least)), (q 55, .inl (E.2.1 0, 4, .inl a_sets)), (q 54, .inl (E.2.1 0, 7, .inl a_bestGiven)), (q 53, .inl (E.2.1 0, 7, .inl a_given))] H := hP
    have hD : va_D A [(h0, .inr (12, mG q i_taped i_size i_sort i_what i_at i_end i_worth i_faultKind i_faultPlace i_got i_worked (nI dl) i_isPlanned i_bestDone i_bestCost)), (q 51, .inl (E.2.1 0, 512, .inl a_least)), (q 55, .inl (E.2.1 0, 4, .inl a_sets)), (q 54, .inl (E.2.1 0, 7, .inl a_bestGiven)), (q 53, .inl (E.2.1 0, 7, .inl a_given))] := hD
    refine lv_iinc (v := 1) (lv' := [(4, .int 1), (0, .ref h0), (2, .int n_17), (3, .int x_15)]) hx hb dX12_give_96 hl (k := 3) rfl (by decide) (by decide) rfl (fun ls hl => ?_)
    refine lv_goto (tgt := 15) hx hb dX12_give_99 (by decide) ?_
    refine lv_iload hx hb dX12_give_15 (lv_at hl 0 rfl) ?_
    refine lv_iconst (v := 4) hx hb dX12_give_17 (by decide) ?_
    refine lv_icmp_ge (tgt := 102) hx hb dX12_give_18 (by decide) (fun c9 => absurd c9 (by decide)) (fun _ => ?_)
    refine lv_aload_n hx hb dX12_give_21 rfl (lv_at hl 1 rfl) ?_
    refine va_get (D := E.1) (ci := 12) (v := .ref (q 51)) (C := RX12) (T := TX12) (N := 59) hx hb hts inX12 hown hK hP 0 rfl rfl 51 (by decide) fl130 (fun _ h9 => h9) rfl dX12_give_22 ?_
    refine lv_sipush (v := 128) hx hb dX12_give_25 (by decide) ?_
    refine lv_iload hx hb dX12_give_28 (lv_at hl 0 rfl) ?_
    refine lv_imul hx hb dX12_give_30 ?_
    refine lv_topi (fun x_18 ex_18 => ?_)
    obtain rfl : x_18 = 128 := ex_18.trans (by decide +kernel)
    refine lv_aload_n hx hb dX12_give_31 rfl (lv_at hl 1 rfl) ?_
    refine va_get (D := E.1) (ci := 12) (v := .ref (q 55)) (C := RX12) (T := TX12) (N := 59) hx hb hts inX12 hown hK hP 0 rfl rfl 55 (by decide) fl142 (fun _ h9 => h9) rfl dX12_give_32 ?_
    refine lv_iload hx hb dX12_give_35 (lv_at hl 0 rfl) ?_
    refine va_iald hx hb hK hP 2 0 rfl rfl (show vp_in 1 4 from by unfold vp_in; decide) dX12_give_37 ?_
    refine lv_topi (fun x_19 ex_19 => ?_)
    have hv_20 : inR x_19 0 127 = true := by rw [ex_19]; exact hI_sets _ (vin_cl (show vp_in 1 4 from by unfold vp_in; decide))
    obtain ⟨w_21, hw_22, ew_23⟩ := inR_nI (n := 127) (by decide) hv_20
    subst ew_23
    refine lv_iadd hx hb dX12_give_38 ?_
    refine lv_topi (fun x_24 ex_24 => ?_)
    obtain rfl : x_24 = nI (128 + w_21) := ex_24.trans (nI_add 128 w_21)
    have hi_25 : vp_in (nI (128 + w_21)) 512 := vp_in_nI (by omega) (by decide)
    refine va_iald hx hb hK hP 1 0 rfl rfl hi_25 dX12_give_39 ?_
    refine lv_topi (fun x_26 ex_26 => ?_)
    refine lv_iconst (v := (-1)) hx hb dX12_give_40 (by decide) ?_
    refine lv_icmp_ne (tgt := 45) hx hb dX12_give_41 (by decide) (fun c_27 => ?_) (fun c_27 => ?_)
    · refine lv_iload_n hx hb dX12_give_45 rfl (lv_at hl 3 rfl) ?_
      refine lv_aload_n hx hb dX12_give_46 rfl (lv_at hl 1 rfl) ?_
      refine va_get (D := E.1) (ci := 12) (v := .ref (q 51)) (C := RX12) (T := TX12) (N := 59) hx hb hts inX12 hown hK hP 0 rfl rfl 51 (by decide) fl130 (fun _ h9 => h9) rfl dX12_give_47 ?_
      refine lv_sipush (v := 128) hx hb dX12_give_50 (by decide) ?_
      refine lv_iload hx hb dX12_give_53 (lv_at hl 0 rfl) ?_
      refine lv_imul hx hb dX12_give_55 ?_
      refine lv_topi (fun x_28 ex_28 => ?_)
      obtain rfl : x_28 = 128 := ex_28.trans (by decide +kernel)
      refine lv_aload_n hx hb dX12_give_56 rfl (lv_at hl 1 rfl) ?_
      refine va_get (D := E.1) (ci := 12) (v := .ref (q 55)) (C := RX12) (T := TX12) (N := 59) hx hb hts inX12 hown hK hP 0 rfl rfl 55 (by decide) fl142 (fun _ h9 => h9) rfl dX12_give_57 ?_
      refine lv_iload hx hb dX12_give_60 (lv_at hl 0 rfl) ?_
      refine va_iald hx hb hK hP 2 0 rfl rfl (show vp_in 1 4 from by unfold vp_in; decide) dX12_give_62 ?_
      refine lv_topi (fun x_29 ex_29 => ?_)
      obtain rfl : x_29 = nI w_21 := ex_29.trans ex_19.symm
      refine lv_iadd hx hb dX12_give_63 ?_
      refine lv_topi (fun x_30 ex_30 => ?_)
      obtain rfl : x_30 = nI (128 + w_21) := ex_30.trans (nI_add 128 w_21)
      refine va_iald hx hb hK hP 1 0 rfl rfl hi_25 dX12_give_64 ?_
      refine lv_topi (fun x_31 ex_31 => ?_)
      refine lv_iadd hx hb dX12_give_65 ?_
      refine lv_topi (fun x_32 ex_32 => ?_)
      refine lv_istore_n (lv' := [(3, .int x_32), (4, .int 1), (0, .ref h0), (2, .int n_17)]) hx hb dX12_give_66 rfl hl (by decide) rfl (fun ls hl => ?_)
      refine lv_aload_n hx hb dX12_give_67 rfl (lv_at hl 2 rfl) ?_
      refine va_get (D := E.1) (ci := 12) (v := .ref (q 55)) (C := RX12) (T := TX12) (N := 59) hx hb hts inX12 hown hK hP 0 rfl rfl 55 (by decide) fl142 (fun _ h9 => h9) rfl dX12_give_68 ?_
      refine lv_iload hx hb dX12_give_71 (lv_at hl 1 rfl) ?_
      refine va_iald hx hb hK hP 2 0 rfl rfl (show vp_in 1 4 from by unfold vp_in; decide) dX12_give_73 ?_
      refine lv_topi (fun x_33 ex_33 => ?_)
      obtain rfl : x_33 = nI w_21 := ex_33.trans ex_19.symm
      refine lv_istore (lv' := [(5, .int (nI w_21)), (3, .int x_32), (4, .int 1), (0, .ref h0), (2, .int n_17)]) hx hb dX12_give_74 hl (by decide) rfl (fun ls hl => ?_)
      have hPl := hP.sub (ws' := [(h0, .inr (12, mG q i_taped i_size i_sort i_what i_at i_end i_worth i_faultKind i_faultPlace i_got i_worked (nI dl) i_isPlanned i_bestDone i_bestCost)), (q 51, .inl (E.2.1 0, 512, .inl a_least)), (q 55, .inl (E.2.1 0, 4, .inl a_sets)), (q 54, .inl (E.2.1 0, 7, .inl a_bestGiven)), (q 53, .inl (E.2.1 0, 7, .inl a_given))]) [0, 1, 2, 3, 4] rfl
      have hDl := hD.sub (ws' := [(h0, .inr (12, mG q i_taped i_size i_sort i_what i_at i_end i_worth i_faultKind i_faultPlace i_got i_worked (nI dl) i_isPlanned i_bestDone i_bestCost)), (q 51, .inl (E.2.1 0, 512, .inl a_least)), (q 55, .inl (E.2.1 0, 4, .inl a_sets)), (q 54, .inl (E.2.1 0, 7, .inl a_bestGiven)), (q 53, .inl (E.2.1 0, 7, .inl a_given))]) [0, 1, 2, 3, 4] (by decide) rfl
      refine lm_bits E h0 q i_taped i_size i_sort i_what i_at i_end i_worth i_faultKind i_faultPlace i_got i_worked i_isPlanned i_bestDone i_bestCost dl x_32 1 ([(q 51, .inl (E.2.1 0, 512, .inl a_least)), (q 55, .inl (E.2.1 0, 4, .inl a_sets)), (q 54, .inl (E.2.1 0, 7, .inl a_bestGiven)), (q 53, .inl (E.2.1 0, 7, .inl a_given))]) hx hb hml hown hts hkn hst hA  (fun n_34 H locs ls  hP hD hS hl => ?_) (w_21 + 1) w_21 n_17 _ _ _ (Nat.lt_succ_self _) hPl hDl hS (lv_sub hl [3, 4, 1, 2, 0] rfl)
      have hP : va_P E.1 vwCl [(h0, .inr (12, mG q i_taped i_size i_sort i_what i_at i_end i_worth i_faultKind i_faultPlace i_got i_worked (nI dl) i_isPlanned i_bestDone i_bestCost)), (q 51, .inl (E.2.1 0, 512, .inl a_least)), (q 55, .inl (E.2.1 0, 4, .inl a_sets)), (q 54, .inl (E.2.1 0, 7, .inl a_bestGiven)), (q 53, .inl (E.2.1 0, 7, .inl a_given))] H := hP
      have hD : va_D A [(h0, .inr (12, mG q i_taped i_size i_sort i_what i_at i_end i_worth i_faultKind i_faultPlace i_got i_worked (nI dl) i_isPlanned i_bestDone i_bestCost)), (q 51, .inl (E.2.1 0, 512, .inl a_least)), (q 55, .inl (E.2.1 0, 4, .inl a_sets)), (q 54, .inl (E.2.1 0, 7, .inl a_bestGiven)), (q 53, .inl (E.2.1 0, 7, .inl a_given))] := hD
      refine lv_iinc (v := 2) (lv' := [(4, .int 2), (0, .ref h0), (2, .int n_34), (3, .int x_32)]) hx hb dX12_give_96 hl (k := 3) rfl (by decide) (by decide) rfl (fun ls hl => ?_)
      refine lv_goto (tgt := 15) hx hb dX12_give_99 (by decide) ?_
      refine lv_iload hx hb dX12_give_15 (lv_at hl 0 rfl) ?_
      refine lv_iconst (v := 4) hx hb dX12_give_17 (by decide) ?_
      refine lv_icmp_ge (tgt := 102) hx hb dX12_give_18 (by decide) (fun c9 => absurd c9 (by decide)) (fun _ => ?_)
      refine lv_aload_n hx hb dX12_give_21 rfl (lv_at hl 1 rfl) ?_
      refine va_get (D := E.1) (ci := 12) (v := .ref (q 51)) (C := RX12) (T := TX12) (N := 59) hx hb hts inX12 hown hK hP 0 rfl rfl 51 (by decide) fl130 (fun _ h9 => h9) rfl dX12_give_22 ?_
      refine lv_sipush (v := 128) hx hb dX12_give_25 (by decide) ?_
      refine lv_iload hx hb dX12_give_28 (lv_at hl 0 rfl) ?_
      refine lv_imul hx hb dX12_give_30 ?_
      refine lv_topi (fun x_35 ex_35 => ?_)
      obtain rfl : x_35 = 256 := ex_35.trans (by decide +kernel)
      refine lv_aload_n hx hb dX12_give_31 rfl (lv_at hl 1 rfl) ?_
      refine va_get (D := E.1) (ci := 12) (v := .ref (q 55)) (C := RX12) (T := TX12) (N := 59) hx hb hts inX12 hown hK hP 0 rfl rfl 55 (by decide) fl142 (fun _ h9 => h9) rfl dX12_give_32 ?_
      refine lv_iload hx hb dX12_give_35 (lv_at hl 0 rfl) ?_
      refine va_iald hx hb hK hP 2 0 rfl rfl (show vp_in 2 4 from by unfold vp_in; decide) dX12_give_37 ?_
      refine lv_topi (fun x_36 ex_36 => ?_)
      have hv_37 : inR x_36 0 127 = true := by rw [ex_36]; exact hI_sets _ (vin_cl (show vp_in 2 4 from by unfold vp_in; decide))
      obtain ⟨w_38, hw_39, ew_40⟩ := inR_nI (n := 127) (by decide) hv_37
      subst ew_40
      refine lv_iadd hx hb dX12_give_38 ?_
      refine lv_topi (fun x_41 ex_41 => ?_)
      obtain rfl : x_41 = nI (256 + w_38) := ex_41.trans (nI_add 256 w_38)
      have hi_42 : vp_in (nI (256 + w_38)) 512 := vp_in_nI (by omega) (by decide)
      refine va_iald hx hb hK hP 1 0 rfl rfl hi_42 dX12_give_39 ?_
      refine lv_topi (fun x_43 ex_43 => ?_)
      refine lv_iconst (v := (-1)) hx hb dX12_give_40 (by decide) ?_
      refine lv_icmp_ne (tgt := 45) hx hb dX12_give_41 (by decide) (fun c_44 => ?_) (fun c_44 => ?_)
      · refine lv_iload_n hx hb dX12_give_45 rfl (lv_at hl 3 rfl) ?_
        refine lv_aload_n hx hb dX12_give_46 rfl (lv_at hl 1 rfl) ?_
        refine va_get (D := E.1) (ci := 12) (v := .ref (q 51)) (C := RX12) (T := TX12) (N := 59) hx hb hts inX12 hown hK hP 0 rfl rfl 51 (by decide) fl130 (fun _ h9 => h9) rfl dX12_give_47 ?_
        refine lv_sipush (v := 128) hx hb dX12_give_50 (by decide) ?_
        refine lv_iload hx hb dX12_give_53 (lv_at hl 0 rfl) ?_
        refine lv_imul hx hb dX12_give_55 ?_
        refine lv_topi (fun x_45 ex_45 => ?_)
        obtain rfl : x_45 = 256 := ex_45.trans (by decide +kernel)
        refine lv_aload_n hx hb dX12_give_56 rfl (lv_at hl 1 rfl) ?_
        refine va_get (D := E.1) (ci := 12) (v := .ref (q 55)) (C := RX12) (T := TX12) (N := 59) hx hb hts inX12 hown hK hP 0 rfl rfl 55 (by decide) fl142 (fun _ h9 => h9) rfl dX12_give_57 ?_
        refine lv_iload hx hb dX12_give_60 (lv_at hl 0 rfl) ?_
        refine va_iald hx hb hK hP 2 0 rfl rfl (show vp_in 2 4 from by unfold vp_in; decide) dX12_give_62 ?_
        refine lv_topi (fun x_46 ex_46 => ?_)
        obtain rfl : x_46 = nI w_38 := ex_46.trans ex_36.symm
        refine lv_iadd hx hb dX12_give_63 ?_
        refine lv_topi (fun x_47 ex_47 => ?_)
        obtain rfl : x_47 = nI (256 + w_38) := ex_47.trans (nI_add 256 w_38)
        refine va_iald hx hb hK hP 1 0 rfl rfl hi_42 dX12_give_64 ?_
        refine lv_topi (fun x_48 ex_48 => ?_)
        refine lv_iadd hx hb dX12_give_65 ?_
        refine lv_topi (fun x_49 ex_49 => ?_)
        refine lv_istore_n (lv' := [(3, .int x_49), (4, .int 2), (0, .ref h0), (2, .int n_34)]) hx hb dX12_give_66 rfl hl (by decide) rfl (fun ls hl => ?_)
        refine lv_aload_n hx hb dX12_give_67 rfl (lv_at hl 2 rfl) ?_
        refine va_get (D := E.1) (ci := 12) (v := .ref (q 55)) (C := RX12) (T := TX12) (N := 59) hx hb hts inX12 hown hK hP 0 rfl rfl 55 (by decide) fl142 (fun _ h9 => h9) rfl dX12_give_68 ?_
        refine lv_iload hx hb dX12_give_71 (lv_at hl 1 rfl) ?_
        refine va_iald hx hb hK hP 2 0 rfl rfl (show vp_in 2 4 from by unfold vp_in; decide) dX12_give_73 ?_
        refine lv_topi (fun x_50 ex_50 => ?_)
        obtain rfl : x_50 = nI w_38 := ex_50.trans ex_36.symm
        refine lv_istore (lv' := [(5, .int (nI w_38)), (3, .int x_49), (4, .int 2), (0, .ref h0), (2, .int n_34)]) hx hb dX12_give_74 hl (by decide) rfl (fun ls hl => ?_)
        have hPl := hP.sub (ws' := [(h0, .inr (12, mG q i_taped i_size i_sort i_what i_at i_end i_worth i_faultKind i_faultPlace i_got i_worked (nI dl) i_isPlanned i_bestDone i_bestCost)), (q 51, .inl (E.2.1 0, 512, .inl a_least)), (q 55, .inl (E.2.1 0, 4, .inl a_sets)), (q 54, .inl (E.2.1 0, 7, .inl a_bestGiven)), (q 53, .inl (E.2.1 0, 7, .inl a_given))]) [0, 1, 2, 3, 4] rfl
        have hDl := hD.sub (ws' := [(h0, .inr (12, mG q i_taped i_size i_sort i_what i_at i_end i_worth i_faultKind i_faultPlace i_got i_worked (nI dl) i_isPlanned i_bestDone i_bestCost)), (q 51, .inl (E.2.1 0, 512, .inl a_least)), (q 55, .inl (E.2.1 0, 4, .inl a_sets)), (q 54, .inl (E.2.1 0, 7, .inl a_bestGiven)), (q 53, .inl (E.2.1 0, 7, .inl a_given))]) [0, 1, 2, 3, 4] (by decide) rfl
        refine lm_bits E h0 q i_taped i_size i_sort i_what i_at i_end i_worth i_faultKind i_faultPlace i_got i_worked i_isPlanned i_bestDone i_bestCost dl x_49 2 ([(q 51, .inl (E.2.1 0, 512, .inl a_least)), (q 55, .inl (E.2.1 0, 4, .inl a_sets)), (q 54, .inl (E.2.1 0, 7, .inl a_bestGiven)), (q 53, .inl (E.2.1 0, 7, .inl a_given))]) hx hb hml hown hts hkn hst hA  (fun n_51 H locs ls  hP hD hS hl => ?_) (w_38 + 1) w_38 n_34 _ _ _ (Nat.lt_succ_self _) hPl hDl hS (lv_sub hl [3, 4, 1, 2, 0] rfl)
        have hP : va_P E.1 vwCl [(h0, .inr (12, mG q i_taped i_size i_sort i_what i_at i_end i_worth i_faultKind i_faultPlace i_got i_worked (nI dl) i_isPlanned i_bestDone i_bestCost)), (q 51, .inl (E.2.1 0, 512, .inl a_least)), (q 55, .inl (E.2.1 0, 4, .inl a_sets)), (q 54, .inl (E.2.1 0, 7, .inl a_bestGiven)), (q 53, .inl (E.2.1 0, 7, .inl a_given))] H := hP
        have hD : va_D A [(h0, .inr (12, mG q i_taped i_size i_sort i_what i_at i_end i_worth i_faultKind i_faultPlace i_got i_worked (nI dl) i_isPlanned i_bestDone i_bestCost)), (q 51, .inl (E.2.1 0, 512, .inl a_least)), (q 55, .inl (E.2.1 0, 4, .inl a_sets)), (q 54, .inl (E.2.1 0, 7, .inl a_bestGiven)), (q 53, .inl (E.2.1 0, 7, .inl a_given))] := hD
        refine lv_iinc (v := 3) (lv' := [(4, .int 3), (0, .ref h0), (2, .int n_51), (3, .int x_49)]) hx hb dX12_give_96 hl (k := 3) rfl (by decide) (by decide) rfl (fun ls hl => ?_)
        refine lv_goto (tgt := 15) hx hb dX12_give_99 (by decide) ?_
        refine lv_iload hx hb dX12_give_15 (lv_at hl 0 rfl) ?_
        refine lv_iconst (v := 4) hx hb dX12_give_17 (by decide) ?_
        refine lv_icmp_ge (tgt := 102) hx hb dX12_give_18 (by decide) (fun c9 => absurd c9 (by decide)) (fun _ => ?_)
        refine lv_aload_n hx hb dX12_give_21 rfl (lv_at hl 1 rfl) ?_
        refine va_get (D := E.1) (ci := 12) (v := .ref (q 51)) (C := RX12) (T := TX12) (N := 59) hx hb hts inX12 hown hK hP 0 rfl rfl 51 (by decide) fl130 (fun _ h9 => h9) rfl dX12_give_22 ?_
        refine lv_sipush (v := 128) hx hb dX12_give_25 (by decide) ?_
        refine lv_iload hx hb dX12_give_28 (lv_at hl 0 rfl) ?_
        refine lv_imul hx hb dX12_give_30 ?_
        refine lv_topi (fun x_52 ex_52 => ?_)
        obtain rfl : x_52 = 384 := ex_52.trans (by decide +kernel)
        refine lv_aload_n hx hb dX12_give_31 rfl (lv_at hl 1 rfl) ?_
        refine va_get (D := E.1) (ci := 12) (v := .ref (q 55)) (C := RX12) (T := TX12) (N := 59) hx hb hts inX12 hown hK hP 0 rfl rfl 55 (by decide) fl142 (fun _ h9 => h9) rfl dX12_give_32 ?_
        refine lv_iload hx hb dX12_give_35 (lv_at hl 0 rfl) ?_
        refine va_iald hx hb hK hP 2 0 rfl rfl (show vp_in 3 4 from by unfold vp_in; decide) dX12_give_37 ?_
        refine lv_topi (fun x_53 ex_53 => ?_)
        have hv_54 : inR x_53 0 127 = true := by rw [ex_53]; exact hI_sets _ (vin_cl (show vp_in 3 4 from by unfold vp_in; decide))
        obtain ⟨w_55, hw_56, ew_57⟩ := inR_nI (n := 127) (by decide) hv_54
        subst ew_57
        refine lv_iadd hx hb dX12_give_38 ?_
        refine lv_topi (fun x_58 ex_58 => ?_)
        obtain rfl : x_58 = nI (384 + w_55) := ex_58.trans (nI_add 384 w_55)
        have hi_59 : vp_in (nI (384 + w_55)) 512 := vp_in_nI (by omega) (by decide)
        refine va_iald hx hb hK hP 1 0 rfl rfl hi_59 dX12_give_39 ?_
        refine lv_topi (fun x_60 ex_60 => ?_)
        refine lv_iconst (v := (-1)) hx hb dX12_give_40 (by decide) ?_
        refine lv_icmp_ne (tgt := 45) hx hb dX12_give_41 (by decide) (fun c_61 => ?_) (fun c_61 => ?_)
        · refine lv_iload_n hx hb dX12_give_45 rfl (lv_at hl 3 rfl) ?_
          refine lv_aload_n hx hb dX12_give_46 rfl (lv_at hl 1 rfl) ?_
          refine va_get (D := E.1) (ci := 12) (v := .ref (q 51)) (C := RX12) (T := TX12) (N := 59) hx hb hts inX12 hown hK hP 0 rfl rfl 51 (by decide) fl130 (fun _ h9 => h9) rfl dX12_give_47 ?_
          refine lv_sipush (v := 128) hx hb dX12_give_50 (by decide) ?_
          refine lv_iload hx hb dX12_give_53 (lv_at hl 0 rfl) ?_
          refine lv_imul hx hb dX12_give_55 ?_
          refine lv_topi (fun x_62 ex_62 => ?_)
          obtain rfl : x_62 = 384 := ex_62.trans (by decide +kernel)
          refine lv_aload_n hx hb dX12_give_56 rfl (lv_at hl 1 rfl) ?_
          refine va_get (D := E.1) (ci := 12) (v := .ref (q 55)) (C := RX12) (T := TX12) (N := 59) hx hb hts inX12 hown hK hP 0 rfl rfl 55 (by decide) fl142 (fun _ h9 => h9) rfl dX12_give_57 ?_
          refine lv_iload hx hb dX12_give_60 (lv_at hl 0 rfl) ?_
          refine va_iald hx hb hK hP 2 0 rfl rfl (show vp_in 3 4 from by unfold vp_in; decide) dX12_give_62 ?_
          refine lv_topi (fun x_63 ex_63 => ?_)
          obtain rfl : x_63 = nI w_55 := ex_63.trans ex_53.symm
          refine lv_iadd hx hb dX12_give_63 ?_
          refine lv_topi (fun x_64 ex_64 => ?_)
          obtain rfl : x_64 = nI (384 + w_55) := ex_64.trans (nI_add 384 w_55)
          refine va_iald hx hb hK hP 1 0 rfl rfl hi_59 dX12_give_64 ?_
          refine lv_topi (fun x_65 ex_65 => ?_)
          refine lv_iadd hx hb dX12_give_65 ?_
          refine lv_topi (fun x_66 ex_66 => ?_)
          refine lv_istore_n (lv' := [(3, .int x_66), (4, .int 3), (0, .ref h0), (2, .int n_51)]) hx hb dX12_give_66 rfl hl (by decide) rfl (fun ls hl => ?_)
          refine lv_aload_n hx hb dX12_give_67 rfl (lv_at hl 2 rfl) ?_
          refine va_get (D := E.1) (ci := 12) (v := .ref (q 55)) (C := RX12) (T := TX12) (N := 59) hx hb hts inX12 hown hK hP 0 rfl rfl 55 (by decide) fl142 (fun _ h9 => h9) rfl dX12_give_68 ?_
          refine lv_iload hx hb dX12_give_71 (lv_at hl 1 rfl) ?_
          refine va_iald hx hb hK hP 2 0 rfl rfl (show vp_in 3 4 from by unfold vp_in; decide) dX12_give_73 ?_
          refine lv_topi (fun x_67 ex_67 => ?_)
          obtain rfl : x_67 = nI w_55 := ex_67.trans ex_53.symm
          refine lv_istore (lv' := [(5, .int (nI w_55)), (3, .int x_66), (4, .int 3), (0, .ref h0), (2, .int n_51)]) hx hb dX12_give_74 hl (by decide) rfl (fun ls hl => ?_)
          have hPl := hP.sub (ws' := [(h0, .inr (12, mG q i_taped i_size i_sort i_what i_at i_end i_worth i_faultKind i_faultPlace i_got i_worked (nI dl) i_isPlanned i_bestDone i_bestCost)), (q 51, .inl (E.2.1 0, 512, .inl a_least)), (q 55, .inl (E.2.1 0, 4, .inl a_sets)), (q 54, .inl (E.2.1 0, 7, .inl a_bestGiven)), (q 53, .inl (E.2.1 0, 7, .inl a_given))]) [0, 1, 2, 3, 4] rfl
          have hDl := hD.sub (ws' := [(h0, .inr (12, mG q i_taped i_size i_sort i_what i_at i_end i_worth i_faultKind i_faultPlace i_got i_worked (nI dl) i_isPlanned i_bestDone i_bestCost)), (q 51, .inl (E.2.1 0, 512, .inl a_least)), (q 55, .inl (E.2.1 0, 4, .inl a_sets)), (q 54, .inl (E.2.1 0, 7, .inl a_bestGiven)), (q 53, .inl (E.2.1 0, 7, .inl a_given))]) [0, 1, 2, 3, 4] (by decide) rfl
          refine lm_bits E h0 q i_taped i_size i_sort i_what i_at i_end i_worth i_faultKind i_faultPlace i_got i_worked i_isPlanned i_bestDone i_bestCost dl x_66 3 ([(q 51, .inl (E.2.1 0, 512, .inl a_least)), (q 55, .inl (E.2.1 0, 4, .inl a_sets)), (q 54, .inl (E.2.1 0, 7, .inl a_bestGiven)), (q 53, .inl (E.2.1 0, 7, .inl a_given))]) hx hb hml hown hts hkn hst hA  (fun n_68 H locs ls  hP hD hS hl => ?_) (w_55 + 1) w_55 n_51 _ _ _ (Nat.lt_succ_self _) hPl hDl hS (lv_sub hl [3, 4, 1, 2, 0] rfl)
          have hP : va_P E.1 vwCl [(h0, .inr (12, mG q i_taped i_size i_sort i_what i_at i_end i_worth i_faultKind i_faultPlace i_got i_worked (nI dl) i_isPlanned i_bestDone i_bestCost)), (q 51, .inl (E.2.1 0, 512, .inl a_least)), (q 55, .inl (E.2.1 0, 4, .inl a_sets)), (q 54, .inl (E.2.1 0, 7, .inl a_bestGiven)), (q 53, .inl (E.2.1 0, 7, .inl a_given))] H := hP
          have hD : va_D A [(h0, .inr (12, mG q i_taped i_size i_sort i_what i_at i_end i_worth i_faultKind i_faultPlace i_got i_worked (nI dl) i_isPlanned i_bestDone i_bestCost)), (q 51, .inl (E.2.1 0, 512, .inl a_least)), (q 55, .inl (E.2.1 0, 4, .inl a_sets)), (q 54, .inl (E.2.1 0, 7, .inl a_bestGiven)), (q 53, .inl (E.2.1 0, 7, .inl a_given))] := hD
          refine lv_iinc (v := 4) (lv' := [(4, .int 4), (0, .ref h0), (2, .int n_68), (3, .int x_66)]) hx hb dX12_give_96 hl (k := 3) rfl (by decide) (by decide) rfl (fun ls hl => ?_)
          refine lv_goto (tgt := 15) hx hb dX12_give_99 (by decide) ?_
          refine lv_iload hx hb dX12_give_15 (lv_at hl 0 rfl) ?_
          refine lv_iconst (v := 4) hx hb dX12_give_17 (by decide) ?_
          refine lv_icmp_ge (tgt := 102) hx hb dX12_give_18 (by decide) (fun _ => ?_) (fun c9 => absurd c9 (by decide))
          refine lv_iload_n hx hb dX12_give_102 rfl (lv_at hl 2 rfl) ?_
          refine lv_aload_n hx hb dX12_give_103 rfl (lv_at hl 1 rfl) ?_
          refine va_get (D := E.1) (ci := 12) (v := .int i_bestDone) (C := RX12) (T := TX12) (N := 59) hx hb hts inX12 hown hK hP 0 rfl rfl 57 (by decide) fl300 (fun _ h9 => h9) rfl dX12_give_104 ?_
          refine lv_icmp_lt (tgt := 126) hx hb dX12_give_107 (by decide) (fun c_69 => ?_) (fun c_69 => ?_)
          · have hP9 := hP.sub (ws' := [(h0, .inr (12, mG q i_taped i_size i_sort i_what i_at i_end i_worth i_faultKind i_faultPlace i_got i_worked (nI dl) i_isPlanned i_bestDone i_bestCost)), (q 51, .inl (E.2.1 0, 512, .inl a_least)), (q 55, .inl (E.2.1 0, 4, .inl a_sets)), (q 54, .inl (E.2.1 0, 7, .inl a_bestGiven)), (q 53, .inl (E.2.1 0, 7, .inl a_given))]) [0, 1, 2, 3, 4] rfl
            have hD9 := hD.sub (ws' := [(h0, .inr (12, mG q i_taped i_size i_sort i_what i_at i_end i_worth i_faultKind i_faultPlace i_got i_worked (nI dl) i_isPlanned i_bestDone i_bestCost)), (q 51, .inl (E.2.1 0, 512, .inl a_least)), (q 55, .inl (E.2.1 0, 4, .inl a_sets)), (q 54, .inl (E.2.1 0, 7, .inl a_bestGiven)), (q 53, .inl (E.2.1 0, 7, .inl a_given))]) [0, 1, 2, 3, 4] (by decide) rfl
            exact W.vret hx hb hr (fun t ht hW => ⟨⟨(i_bestDone, i_bestCost, a_sets, a_bestGiven, a_given), rfl, trivial, hI_sets, by rw [ht]; exact hP9, hD9⟩, hS.F ht⟩) hS.2.2 dX12_give_126
          · refine lv_iload_n hx hb dX12_give_110 rfl (lv_at hl 2 rfl) ?_
            refine lv_aload_n hx hb dX12_give_111 rfl (lv_at hl 1 rfl) ?_
            refine va_get (D := E.1) (ci := 12) (v := .int i_bestDone) (C := RX12) (T := TX12) (N := 59) hx hb hts inX12 hown hK hP 0 rfl rfl 57 (by decide) fl300 (fun _ h9 => h9) rfl dX12_give_112 ?_
            refine lv_icmp_ne (tgt := 127) hx hb dX12_give_115 (by decide) (fun c_70 => ?_) (fun c_70 => ?_)
            · refine lv_aload_n hx hb dX12_give_127 rfl (lv_at hl 1 rfl) ?_
              refine lv_iload_n hx hb dX12_give_128 rfl (lv_at hl 2 rfl) ?_
              refine va_put (D := E.1) (ci := 12) (v := .int n_68) (ty := .int) (C := RX12) (T := TX12) (N := 59) hx hb hts inX12 tyX12 tyX12_ok nmX12 hown hK hP hD hS 0 rfl rfl 57 (by decide) fl300 (fun _ h9 => h9) rfl (by decide +kernel) rfl rfl (Nat.le_of_ble_eq_true rfl) dX12_give_129 (fun H locs hP hD hS => ?_)
              have hP : va_P E.1 vwCl [(h0, .inr (12, mG q i_taped i_size i_sort i_what i_at i_end i_worth i_faultKind i_faultPlace i_got i_worked (nI dl) i_isPlanned n_68 i_bestCost)), (q 51, .inl (E.2.1 0, 512, .inl a_least)), (q 55, .inl (E.2.1 0, 4, .inl a_sets)), (q 54, .inl (E.2.1 0, 7, .inl a_bestGiven)), (q 53, .inl (E.2.1 0, 7, .inl a_given))] H := hP
              have hD : va_D A [(h0, .inr (12, mG q i_taped i_size i_sort i_what i_at i_end i_worth i_faultKind i_faultPlace i_got i_worked (nI dl) i_isPlanned n_68 i_bestCost)), (q 51, .inl (E.2.1 0, 512, .inl a_least)), (q 55, .inl (E.2.1 0, 4, .inl a_sets)), (q 54, .inl (E.2.1 0, 7, .inl a_bestGiven)), (q 53, .inl (E.2.1 0, 7, .inl a_given))] := hD
              refine lv_aload_n hx hb dX12_give_132 rfl (lv_at hl 1 rfl) ?_
              refine lv_iload_n hx hb dX12_give_133 rfl (lv_at hl 3 rfl) ?_
              refine va_put (D := E.1) (ci := 12) (v := .int x_66) (ty := .int) (C := RX12) (T := TX12) (N := 59) hx hb hts inX12 tyX12 tyX12_ok nmX12 hown hK hP hD hS 0 rfl rfl 58 (by decide) fl303 (fun _ h9 => h9) rfl (by decide +kernel) rfl rfl (Nat.le_of_ble_eq_true rfl) dX12_give_134 (fun H locs hP hD hS => ?_)
              have hP : va_P E.1 vwCl [(h0, .inr (12, mG q i_taped i_size i_sort i_what i_at i_end i_worth i_faultKind i_faultPlace i_got i_worked (nI dl) i_isPlanned n_68 x_66)), (q 51, .inl (E.2.1 0, 512, .inl a_least)), (q 55, .inl (E.2.1 0, 4, .inl a_sets)), (q 54, .inl (E.2.1 0, 7, .inl a_bestGiven)), (q 53, .inl (E.2.1 0, 7, .inl a_given))] H := hP
              have hD : va_D A [(h0, .inr (12, mG q i_taped i_size i_sort i_what i_at i_end i_worth i_faultKind i_faultPlace i_got i_worked (nI dl) i_isPlanned n_68 x_66)), (q 51, .inl (E.2.1 0, 512, .inl a_least)), (q 55, .inl (E.2.1 0, 4, .inl a_sets)), (q 54, .inl (E.2.1 0, 7, .inl a_bestGiven)), (q 53, .inl (E.2.1 0, 7, .inl a_given))] := hD
              refine lv_iconst (v := 0) hx hb dX12_give_137 (by decide) ?_
              refine lv_istore (lv' := [(4, .int 0), (0, .ref h0), (2, .int n_68), (3, .int x_66)]) hx hb dX12_give_138 hl (by decide) rfl (fun ls hl => ?_)
              have hPl := hP.sub (ws' := [(h0, .inr (12, mG q i_taped i_size i_sort i_what i_at i_end i_worth i_faultKind i_faultPlace i_got i_worked (nI dl) i_isPlanned n_68 x_66)), (q 53, .inl (E.2.1 0, 7, .inl a_given)), (q 54, .inl (E.2.1 0, 7, .inl a_bestGiven)), (q 51, .inl (E.2.1 0, 512, .inl a_least)), (q 55, .inl (E.2.1 0, 4, .inl a_sets))]) [0, 4, 3, 1, 2] rfl
              have hDl := hD.sub (ws' := [(h0, .inr (12, mG q i_taped i_size i_sort i_what i_at i_end i_worth i_faultKind i_faultPlace i_got i_worked (nI dl) i_isPlanned n_68 x_66)), (q 53, .inl (E.2.1 0, 7, .inl a_given)), (q 54, .inl (E.2.1 0, 7, .inl a_bestGiven)), (q 51, .inl (E.2.1 0, 512, .inl a_least)), (q 55, .inl (E.2.1 0, 4, .inl a_sets))]) [0, 4, 3, 1, 2] (by decide) rfl
              refine lm_copy E h0 q i_taped i_size i_sort i_what i_at i_end i_worth i_faultKind i_faultPlace i_got i_worked i_isPlanned n_68 x_66 dl a_given ([(q 51, .inl (E.2.1 0, 512, .inl a_least)), (q 55, .inl (E.2.1 0, 4, .inl a_sets))]) hx hb hml hown hts hkn hst hA (by omega) (fun n_71 H locs ls  hP hD hS hl => ?_) 9 0 a_bestGiven _ _ _ (by omega) (by omega) hPl hDl hS (lv_sub hl [1, 0] rfl)
              have hP : va_P E.1 vwCl [(h0, .inr (12, mG q i_taped i_size i_sort i_what i_at i_end i_worth i_faultKind i_faultPlace i_got i_worked (nI dl) i_isPlanned n_68 x_66)), (q 53, .inl (E.2.1 0, 7, .inl a_given)), (q 54, .inl (E.2.1 0, 7, .inl n_71)), (q 51, .inl (E.2.1 0, 512, .inl a_least)), (q 55, .inl (E.2.1 0, 4, .inl a_sets))] H := hP
              have hD : va_D A [(h0, .inr (12, mG q i_taped i_size i_sort i_what i_at i_end i_worth i_faultKind i_faultPlace i_got i_worked (nI dl) i_isPlanned n_68 x_66)), (q 53, .inl (E.2.1 0, 7, .inl a_given)), (q 54, .inl (E.2.1 0, 7, .inl n_71)), (q 51, .inl (E.2.1 0, 512, .inl a_least)), (q 55, .inl (E.2.1 0, 4, .inl a_sets))] := hD
              have hP9 := hP.sub (ws' := [(h0, .inr (12, mG q i_taped i_size i_sort i_what i_at i_end i_worth i_faultKind i_faultPlace i_got i_worked (nI dl) i_isPlanned n_68 x_66)), (q 51, .inl (E.2.1 0, 512, .inl a_least)), (q 55, .inl (E.2.1 0, 4, .inl a_sets)), (q 54, .inl (E.2.1 0, 7, .inl n_71)), (q 53, .inl (E.2.1 0, 7, .inl a_given))]) [0, 3, 4, 2, 1] rfl
              have hD9 := hD.sub (ws' := [(h0, .inr (12, mG q i_taped i_size i_sort i_what i_at i_end i_worth i_faultKind i_faultPlace i_got i_worked (nI dl) i_isPlanned n_68 x_66)), (q 51, .inl (E.2.1 0, 512, .inl a_least)), (q 55, .inl (E.2.1 0, 4, .inl a_sets)), (q 54, .inl (E.2.1 0, 7, .inl n_71)), (q 53, .inl (E.2.1 0, 7, .inl a_given))]) [0, 3, 4, 2, 1] (by decide) rfl
              exact W.vret hx hb hr (fun t ht hW => ⟨⟨(n_68, x_66, a_sets, n_71, a_given), rfl, trivial, hI_sets, by rw [ht]; exact hP9, hD9⟩, hS.F ht⟩) hS.2.2 dX12_give_169
            · refine lv_iload_n hx hb dX12_give_118 rfl (lv_at hl 3 rfl) ?_
              refine lv_aload_n hx hb dX12_give_119 rfl (lv_at hl 1 rfl) ?_
              refine va_get (D := E.1) (ci := 12) (v := .int i_bestCost) (C := RX12) (T := TX12) (N := 59) hx hb hts inX12 hown hK hP 0 rfl rfl 58 (by decide) fl303 (fun _ h9 => h9) rfl dX12_give_120 ?_
              refine lv_icmp_lt (tgt := 127) hx hb dX12_give_123 (by decide) (fun c_72 => ?_) (fun c_72 => ?_)
              · refine lv_aload_n hx hb dX12_give_127 rfl (lv_at hl 1 rfl) ?_
                refine lv_iload_n hx hb dX12_give_128 rfl (lv_at hl 2 rfl) ?_
                refine va_put (D := E.1) (ci := 12) (v := .int n_68) (ty := .int) (C := RX12) (T := TX12) (N := 59) hx hb hts inX12 tyX12 tyX12_ok nmX12 hown hK hP hD hS 0 rfl rfl 57 (by decide) fl300 (fun _ h9 => h9) rfl (by decide +kernel) rfl rfl (Nat.le_of_ble_eq_true rfl) dX12_give_129 (fun H locs hP hD hS => ?_)
                have hP : va_P E.1 vwCl [(h0, .inr (12, mG q i_taped i_size i_sort i_what i_at i_end i_worth i_faultKind i_faultPlace i_got i_worked (nI dl) i_isPlanned n_68 i_bestCost)), (q 51, .inl (E.2.1 0, 512, .inl a_least)), (q 55, .inl (E.2.1 0, 4, .inl a_sets)), (q 54, .inl (E.2.1 0, 7, .inl a_bestGiven)), (q 53, .inl (E.2.1 0, 7, .inl a_given))] H := hP
                have hD : va_D A [(h0, .inr (12, mG q i_taped i_size i_sort i_what i_at i_end i_worth i_faultKind i_faultPlace i_got i_worked (nI dl) i_isPlanned n_68 i_bestCost)), (q 51, .inl (E.2.1 0, 512, .inl a_least)), (q 55, .inl (E.2.1 0, 4, .inl a_sets)), (q 54, .inl (E.2.1 0, 7, .inl a_bestGiven)), (q 53, .inl (E.2.1 0, 7, .inl a_given))] := hD
                refine lv_aload_n hx hb dX12_give_132 rfl (lv_at hl 1 rfl) ?_
                refine lv_iload_n hx hb dX12_give_133 rfl (lv_at hl 3 rfl) ?_
                refine va_put (D := E.1) (ci := 12) (v := .int x_66) (ty := .int) (C := RX12) (T := TX12) (N := 59) hx hb hts inX12 tyX12 tyX12_ok nmX12 hown hK hP hD hS 0 rfl rfl 58 (by decide) fl303 (fun _ h9 => h9) rfl (by decide +kernel) rfl rfl (Nat.le_of_ble_eq_true rfl) dX12_give_134 (fun H locs hP hD hS => ?_)
                have hP : va_P E.1 vwCl [(h0, .inr (12, mG q i_taped i_size i_sort i_what i_at i_end i_worth i_faultKind i_faultPlace i_got i_worked (nI dl) i_isPlanned n_68 x_66)), (q 51, .inl (E.2.1 0, 512, .inl a_least)), (q 55, .inl (E.2.1 0, 4, .inl a_sets)), (q 54, .inl (E.2.1 0, 7, .inl a_bestGiven)), (q 53, .inl (E.2.1 0, 7, .inl a_given))] H := hP
                have hD : va_D A [(h0, .inr (12, mG q i_taped i_size i_sort i_what i_at i_end i_worth i_faultKind i_faultPlace i_got i_worked (nI dl) i_isPlanned n_68 x_66)), (q 51, .inl (E.2.1 0, 512, .inl a_least)), (q 55, .inl (E.2.1 0, 4, .inl a_sets)), (q 54, .inl (E.2.1 0, 7, .inl a_bestGiven)), (q 53, .inl (E.2.1 0, 7, .inl a_given))] := hD
                refine lv_iconst (v := 0) hx hb dX12_give_137 (by decide) ?_
                refine lv_istore (lv' := [(4, .int 0), (0, .ref h0), (2, .int n_68), (3, .int x_66)]) hx hb dX12_give_138 hl (by decide) rfl (fun ls hl => ?_)
                have hPl := hP.sub (ws' := [(h0, .inr (12, mG q i_taped i_size i_sort i_what i_at i_end i_worth i_faultKind i_faultPlace i_got i_worked (nI dl) i_isPlanned n_68 x_66)), (q 53, .inl (E.2.1 0, 7, .inl a_given)), (q 54, .inl (E.2.1 0, 7, .inl a_bestGiven)), (q 51, .inl (E.2.1 0, 512, .inl a_least)), (q 55, .inl (E.2.1 0, 4, .inl a_sets))]) [0, 4, 3, 1, 2] rfl
                have hDl := hD.sub (ws' := [(h0, .inr (12, mG q i_taped i_size i_sort i_what i_at i_end i_worth i_faultKind i_faultPlace i_got i_worked (nI dl) i_isPlanned n_68 x_66)), (q 53, .inl (E.2.1 0, 7, .inl a_given)), (q 54, .inl (E.2.1 0, 7, .inl a_bestGiven)), (q 51, .inl (E.2.1 0, 512, .inl a_least)), (q 55, .inl (E.2.1 0, 4, .inl a_sets))]) [0, 4, 3, 1, 2] (by decide) rfl
                refine lm_copy E h0 q i_taped i_size i_sort i_what i_at i_end i_worth i_faultKind i_faultPlace i_got i_worked i_isPlanned n_68 x_66 dl a_given ([(q 51, .inl (E.2.1 0, 512, .inl a_least)), (q 55, .inl (E.2.1 0, 4, .inl a_sets))]) hx hb hml hown hts hkn hst hA (by omega) (fun n_73 H locs ls  hP hD hS hl => ?_) 9 0 a_bestGiven _ _ _ (by omega) (by omega) hPl hDl hS (lv_sub hl [1, 0] rfl)
                have hP : va_P E.1 vwCl [(h0, .inr (12, mG q i_taped i_size i_sort i_what i_at i_end i_worth i_faultKind i_faultPlace i_got i_worked (nI dl) i_isPlanned n_68 x_66)), (q 53, .inl (E.2.1 0, 7, .inl a_given)), (q 54, .inl (E.2.1 0, 7, .inl n_73)), (q 51, .inl (E.2.1 0, 512, .inl a_least)), (q 55, .inl (E.2.1 0, 4, .inl a_sets))] H := hP
                have hD : va_D A [(h0, .inr (12, mG q i_taped i_size i_sort i_what i_at i_end i_worth i_faultKind i_faultPlace i_got i_worked (nI dl) i_isPlanned n_68 x_66)), (q 53, .inl (E.2.1 0, 7, .inl a_given)), (q 54, .inl (E.2.1 0, 7, .inl n_73)), (q 51, .inl (E.2.1 0, 512, .inl a_least)), (q 55, .inl (E.2.1 0, 4, .inl a_sets))] := hD
                have hP9 := hP.sub (ws' := [(h0, .inr (12, mG q i_taped i_size i_sort i_what i_at i_end i_worth i_faultKind i_faultPlace i_got i_worked (nI dl) i_isPlanned n_68 x_66)), (q 51, .inl (E.2.1 0, 512, .inl a_least)), (q 55, .inl (E.2.1 0, 4, .inl a_sets)), (q 54, .inl (E.2.1 0, 7, .inl n_73)), (q 53, .inl (E.2.1 0, 7, .inl a_given))]) [0, 3, 4, 2, 1] rfl
                have hD9 := hD.sub (ws' := [(h0, .inr (12, mG q i_taped i_size i_sort i_what i_at i_end i_worth i_faultKind i_faultPlace i_got i_worked (nI dl) i_isPlanned n_68 x_66)), (q 51, .inl (E.2.1 0, 512, .inl a_least)), (q 55, .inl (E.2.1 0, 4, .inl a_sets)), (q 54, .inl (E.2.1 0, 7, .inl n_73)), (q 53, .inl (E.2.1 0, 7, .inl a_given))]) [0, 3, 4, 2, 1] (by decide) rfl
                exact W.vret hx hb hr (fun t ht hW => ⟨⟨(n_68, x_66, a_sets, n_73, a_given), rfl, trivial, hI_sets, by rw [ht]; exact hP9, hD9⟩, hS.F ht⟩) hS.2.2 dX12_give_169
              · have hP9 := hP.sub (ws' := [(h0, .inr (12, mG q i_taped i_size i_sort i_what i_at i_end i_worth i_faultKind i_faultPlace i_got i_worked (nI dl) i_isPlanned i_bestDone i_bestCost)), (q 51, .inl (E.2.1 0, 512, .inl a_least)), (q 55, .inl (E.2.1 0, 4, .inl a_sets)), (q 54, .inl (E.2.1 0, 7, .inl a_bestGiven)), (q 53, .inl (E.2.1 0, 7, .inl a_given))]) [0, 1, 2, 3, 4] rfl
                have hD9 := hD.sub (ws' := [(h0, .inr (12, mG q i_taped i_size i_sort i_what i_at i_end i_worth i_faultKind i_faultPlace i_got i_worked (nI dl) i_isPlanned i_bestDone i_bestCost)), (q 51, .inl (E.2.1 0, 512, .inl a_least)), (q 55, .inl (E.2.1 0, 4, .inl a_sets)), (q 54, .inl (E.2.1 0, 7, .inl a_bestGiven)), (q 53, .inl (E.2.1 0, 7, .inl a_given))]) [0, 1, 2, 3, 4] (by decide) rfl
                exact W.vret hx hb hr (fun t ht hW => ⟨⟨(i_bestDone, i_bestCost, a_sets, a_bestGiven, a_given), rfl, trivial, hI_sets, by rw [ht]; exact hP9, hD9⟩, hS.F ht⟩) hS.2.2 dX12_give_126
        · have hP9 := hP.sub (ws' := [(h0, .inr (12, mG q i_taped i_size i_sort i_what i_at i_end i_worth i_faultKind i_faultPlace i_got i_worked (nI dl) i_isPlanned i_bestDone i_bestCost)), (q 51, .inl (E.2.1 0, 512, .inl a_least)), (q 55, .inl (E.2.1 0, 4, .inl a_sets)), (q 54, .inl (E.2.1 0, 7, .inl a_bestGiven)), (q 53, .inl (E.2.1 0, 7, .inl a_given))]) [0, 1, 2, 3, 4] rfl
          have hD9 := hD.sub (ws' := [(h0, .inr (12, mG q i_taped i_size i_sort i_what i_at i_end i_worth i_faultKind i_faultPlace i_got i_worked (nI dl) i_isPlanned i_bestDone i_bestCost)), (q 51, .inl (E.2.1 0, 512, .inl a_least)), (q 55, .inl (E.2.1 0, 4, .inl a_sets)), (q 54, .inl (E.2.1 0, 7, .inl a_bestGiven)), (q 53, .inl (E.2.1 0, 7, .inl a_given))]) [0, 1, 2, 3, 4] (by decide) rfl
          exact W.vret hx hb hr (fun t ht hW => ⟨⟨(i_bestDone, i_bestCost, a_sets, a_bestGiven, a_given), rfl, trivial, hI_sets, by rw [ht]; exact hP9, hD9⟩, hS.F ht⟩) hS.2.2 dX12_give_44
      · have hP9 := hP.sub (ws' := [(h0, .inr (12, mG q i_taped i_size i_sort i_what i_at i_end i_worth i_faultKind i_faultPlace i_got i_worked (nI dl) i_isPlanned i_bestDone i_bestCost)), (q 51, .inl (E.2.1 0, 512, .inl a_least)), (q 55, .inl (E.2.1 0, 4, .inl a_sets)), (q 54, .inl (E.2.1 0, 7, .inl a_bestGiven)), (q 53, .inl (E.2.1 0, 7, .inl a_given))]) [0, 1, 2, 3, 4] rfl
        have hD9 := hD.sub (ws' := [(h0, .inr (12, mG q i_taped i_size i_sort i_what i_at i_end i_worth i_faultKind i_faultPlace i_got i_worked (nI dl) i_isPlanned i_bestDone i_bestCost)), (q 51, .inl (E.2.1 0, 512, .inl a_least)), (q 55, .inl (E.2.1 0, 4, .inl a_sets)), (q 54, .inl (E.2.1 0, 7, .inl a_bestGiven)), (q 53, .inl (E.2.1 0, 7, .inl a_given))]) [0, 1, 2, 3, 4] (by decide) rfl
        exact W.vret hx hb hr (fun t ht hW => ⟨⟨(i_bestDone, i_bestCost, a_sets, a_bestGiven, a_given), rfl, trivial, hI_sets, by rw [ht]; exact hP9, hD9⟩, hS.F ht⟩) hS.2.2 dX12_give_44
    · have hP9 := hP.sub (ws' := [(h0, .inr (12, mG q i_taped i_size i_sort i_what i_at i_end i_worth i_faultKind i_faultPlace i_got i_worked (nI dl) i_isPlanned i_bestDone i_bestCost)), (q 51, .inl (E.2.1 0, 512, .inl a_least)), (q 55, .inl (E.2.1 0, 4, .inl a_sets)), (q 54, .inl (E.2.1 0, 7, .inl a_bestGiven)), (q 53, .inl (E.2.1 0, 7, .inl a_given))]) [0, 1, 2, 3, 4] rfl
      have hD9 := hD.sub (ws' := [(h0, .inr (12, mG q i_taped i_size i_sort i_what i_at i_end i_worth i_faultKind i_faultPlace i_got i_worked (nI dl) i_isPlanned i_bestDone i_bestCost)), (q 51, .inl (E.2.1 0, 512, .inl a_least)), (q 55, .inl (E.2.1 0, 4, .inl a_sets)), (q 54, .inl (E.2.1 0, 7, .inl a_bestGiven)), (q 53, .inl (E.2.1 0, 7, .inl a_given))]) [0, 1, 2, 3, 4] (by decide) rfl
      exact W.vret hx hb hr (fun t ht hW => ⟨⟨(i_bestDone, i_bestCost, a_sets, a_bestGiven, a_given), rfl, trivial, hI_sets, by rw [ht]; exact hP9, hD9⟩, hS.F ht⟩) hS.2.2 dX12_give_44
  · have hP9 := hP.sub (ws' := [(h0, .inr (12, mG q i_taped i_size i_sort i_what i_at i_end i_worth i_faultKind i_faultPlace i_got i_worked (nI dl) i_isPlanned i_bestDone i_bestCost)), (q 51, .inl (E.2.1 0, 512, .inl a_least)), (q 55, .inl (E.2.1 0, 4, .inl a_sets)), (q 54, .inl (E.2.1 0, 7, .inl a_bestGiven)), (q 53, .inl (E.2.1 0, 7, .inl a_given))]) [0, 1, 2, 3, 4] rfl
    have hD9 := hD.sub (ws' := [(h0, .inr (12, mG q i_taped i_size i_sort i_what i_at i_end i_worth i_faultKind i_faultPlace i_got i_worked (nI dl) i_isPlanned i_bestDone i_bestCost)), (q 51, .inl (E.2.1 0, 512, .inl a_least)), (q 55, .inl (E.2.1 0, 4, .inl a_sets)), (q 54, .inl (E.2.1 0, 7, .inl a_bestGiven)), (q 53, .inl (E.2.1 0, 7, .inl a_given))]) [0, 1, 2, 3, 4] (by decide) rfl
    exact W.vret hx hb hr (fun t ht hW => ⟨⟨(i_bestDone, i_bestCost, a_sets, a_bestGiven, a_given), rfl, trivial, hI_sets, by rw [ht]; exact hP9, hD9⟩, hS.F ht⟩) hS.2.2 dX12_give_44
set_option maxHeartbeats 4000000 in
set_option maxRecDepth 100000 in
theorem c_X12_give6 (l : Launch) (E : vE) (h0 : Nat) (q : Nat → Nat) (i_taped : Int32) (i_size : Int32) (i_sort : Int32) (i_what : Int32) (i_at : Int32) (i_end : Int32) (i_worth : Int32) (i_faultKind : Int32) (i_faultPlace : Int32) (i_got : Int32) (i_worked : Int32) (i_isPlanned : Int32) (i_bestDone : Int32) (i_bestCost : Int32) (dl : Nat) (a_least : Nat → Int32) (a_sets : Nat → Int32) (a_bestGiven : Nat → Int32) (a_given : Nat → Int32) (sz : Nat) (hdl : dl ≤ 7) (hd : 6 ≤ dl) (hI_sets : ∀ k : Nat, k < 4 → inR (a_sets k) 0 127 = true) : Met l yX12_give wsX12_give ({ frames := 1, cells := 0, slots := 0, locals := 25 }) (pcW E [.ref h0, .int 6] sz [(h0, .inr (12, mG q i_taped i_size i_sort i_what i_at i_end i_worth i_faultKind i_faultPlace i_got i_worked (nI dl) i_isPlanned i_bestDone i_bestCost)), (q 51, .inl (E.2.1 0, 512, .inl a_least)), (q 55, .inl (E.2.1 0, 4, .inl a_sets)), (q 54, .inl (E.2.1 0, 7, .inl a_bestGiven)), (q 53, .inl (E.2.1 0, 7, .inl a_given))]) (va_Qv (fun (u : Int32 × Int32 × (Nat → Int32) × (Nat → Int32) × (Nat → Int32)) => match u with | (bd2, bc2, b_sets, b_bestGiven, b_given) => True) (fun (u : Int32 × Int32 × (Nat → Int32) × (Nat → Int32) × (Nat → Int32)) (t : State) => match u with | (bd2, bc2, b_sets, b_bestGiven, b_given) => (∀ k : Nat, k < 4 → inR (b_sets k) 0 127 = true) ∧ wB E (va_A [(h0, .inr (12, mG q i_taped i_size i_sort i_what i_at i_end i_worth i_faultKind i_faultPlace i_got i_worked (nI dl) i_isPlanned i_bestDone i_bestCost)), (q 51, .inl (E.2.1 0, 512, .inl a_least)), (q 55, .inl (E.2.1 0, 4, .inl a_sets)), (q 54, .inl (E.2.1 0, 7, .inl a_bestGiven)), (q 53, .inl (E.2.1 0, 7, .inl a_given))] sz) [(h0, .inr (12, mG q i_taped i_size i_sort i_what i_at i_end i_worth i_faultKind i_faultPlace i_got i_worked (nI dl) i_isPlanned bd2 bc2)), (q 51, .inl (E.2.1 0, 512, .inl a_least)), (q 55, .inl (E.2.1 0, 4, .inl b_sets)), (q 54, .inl (E.2.1 0, 7, .inl b_bestGiven)), (q 53, .inl (E.2.1 0, 7, .inl b_given))] t) (va_A [(h0, .inr (12, mG q i_taped i_size i_sort i_what i_at i_end i_worth i_faultKind i_faultPlace i_got i_worked (nI dl) i_isPlanned i_bestDone i_bestCost)), (q 51, .inl (E.2.1 0, 512, .inl a_least)), (q 55, .inl (E.2.1 0, 4, .inl a_sets)), (q 54, .inl (E.2.1 0, 7, .inl a_bestGiven)), (q 53, .inl (E.2.1 0, 7, .inl a_given))] sz)) 0 0 (va_A [(h0, .inr (12, mG q i_taped i_size i_sort i_what i_at i_end i_worth i_faultKind i_faultPlace i_got i_worked (nI dl) i_isPlanned i_bestDone i_bestCost)), (q 51, .inl (E.2.1 0, 512, .inl a_least)), (q 55, .inl (E.2.1 0, 4, .inl a_sets)), (q 54, .inl (E.2.1 0, 7, .inl a_bestGiven)), (q 53, .inl (E.2.1 0, 7, .inl a_given))] sz) := by
  refine Met.ofW (cc := cX12_give) (maxL := 6) (ret := none) (by decide) rfl ?_
  intro p e s m args below meth c s₁ B hml hv
  obtain ⟨rfl, hsz, hP, hkn, hD0, hst⟩ := hv
  have hx := B.exec
  have hb := B.bytes
  have hr := B.returns
  have hts := atoms_spec (ws := wsX12_give) B.pre
  have hown : s.vm.findClass RX12 = some m.cls := findClass_of_methodNamed B.named
  have hlocks := B.notSynchronized
  subst hsz
  have hD := hD0.self (sz := s.heap.size)
  have hK := hkn.1
  have hAO := hkn.2.2.1
  generalize hAe : va_A [(h0, .inr (12, mG q i_taped i_size i_sort i_what i_at i_end i_worth i_faultKind i_faultPlace i_got i_worked (nI dl) i_isPlanned i_bestDone i_bestCost)), (q 51, .inl (E.2.1 0, 512, .inl a_least)), (q 55, .inl (E.2.1 0, 4, .inl a_sets)), (q 54, .inl (E.2.1 0, 7, .inl a_bestGiven)), (q 53, .inl (E.2.1 0, 7, .inl a_given))] s.heap.size = A at hD hst ⊢
  have hA : ∀ q : Nat, s.heap.size ≤ q → A q := fun q h => by rw [← hAe]; exact Or.inr h
  have hS : va_S A s.heap s.heap [] := va_S.rf
  have hP : va_P E.1 vwCl [(h0, .inr (12, mG q i_taped i_size i_sort i_what i_at i_end i_worth i_faultKind i_faultPlace i_got i_worked (nI dl) i_isPlanned i_bestDone i_bestCost)), (q 51, .inl (E.2.1 0, 512, .inl a_least)), (q 55, .inl (E.2.1 0, 4, .inl a_sets)), (q 54, .inl (E.2.1 0, 7, .inl a_bestGiven)), (q 53, .inl (E.2.1 0, 7, .inl a_given))] s.heap := hP
  have hl := lv_entry ([.ref h0, .int 6]) (n := 6) (Nat.le_of_ble_eq_true rfl)
  rw [lg_entry_eq]
  generalize (lg_sl ([.ref h0, .int 6]) ++ List.replicate (6 - (lg_sl ([.ref h0, .int 6])).length) Slot.unset).toArray = ls at hl ⊢
  have hl : lv_has ls 6 [(0, .ref h0), (1, .int 6)] := hl
  have fl130 := hts (.fieldLink RX12 130 "BoatsHomeModel" "least" "[I") (by first | exact List.mem_of_getElem? (i := 2) rfl | decide +kernel)
  have fl136 := hts (.fieldLink RX12 136 "BoatsHomeModel" "given" "[I") (by first | exact List.mem_of_getElem? (i := 7) rfl | decide +kernel)
  have fl139 := hts (.fieldLink RX12 139 "BoatsHomeModel" "bestGiven" "[I") (by first | exact List.mem_of_getElem? (i := 6) rfl | decide +kernel)
  have fl142 := hts (.fieldLink RX12 142 "BoatsHomeModel" "sets" "[I") (by first | exact List.mem_of_getElem? (i := 3) rfl | decide +kernel)
  have fl289 := hts (.fieldLink RX12 289 "BoatsHomeModel" "deliveries" "I") (by first | exact List.mem_of_getElem? (i := 1) rfl | decide +kernel)
  have fl300 := hts (.fieldLink RX12 300 "BoatsHomeModel" "bestDone" "I") (by first | exact List.mem_of_getElem? (i := 4) rfl | decide +kernel)
  have fl303 := hts (.fieldLink RX12 303 "BoatsHomeModel" "bestCost" "I") (by first | exact List.mem_of_getElem? (i := 5) rfl | decide +kernel)
  have inX12 : ∀ w ∈ u_ws RX12 TX12 59, w ∈ wsX12_give := by first | exact fun w h9 => (List.mem_cons_of_mem _ (List.mem_append_right _ h9)) | decide +kernel
  refine lv_iload_n hx hb dX12_give_0 rfl (lv_at hl 1 rfl) ?_
  refine lv_aload_n hx hb dX12_give_1 rfl (lv_at hl 0 rfl) ?_
  refine va_get (D := E.1) (ci := 12) (v := .int (nI dl)) (C := RX12) (T := TX12) (N := 59) hx hb hts inX12 hown hK hP 0 rfl rfl 41 (by decide) fl289 (fun _ h9 => h9) rfl dX12_give_2 ?_
  refine lv_icmp_ne (tgt := 170) hx hb dX12_give_5 (by decide) (fun c_1 => ?_) (fun c_1 => ?_)
  · have hd2 : 6 + 1 ≤ dl := by
      rcases Nat.lt_or_ge 6 dl with q | q
      · exact q
      · exact absurd (by rw [show dl = 6 by omega]; rfl) c_1
    refine lv_iconst (v := 0) hx hb dX12_give_170 (by decide) ?_
    refine lv_istore_n (lv' := [(2, .int 0), (0, .ref h0), (1, .int 6)]) hx hb dX12_give_171 rfl hl (by decide) rfl (fun ls hl => ?_)
    refine lv_iload_n hx hb dX12_give_172 rfl (lv_at hl 0 rfl) ?_
    refine lv_iconst (v := 4) hx hb dX12_give_173 (by decide) ?_
    refine lv_icmp_ge (tgt := 223) hx hb dX12_give_174 (by decide) (fun c9 => absurd c9 (by decide)) (fun _ => ?_)
    refine lv_aload_n hx hb dX12_give_177 rfl (lv_at hl 1 rfl) ?_
    refine va_get (D := E.1) (ci := 12) (v := .ref (q 53)) (C := RX12) (T := TX12) (N := 59) hx hb hts inX12 hown hK hP 0 rfl rfl 53 (by decide) fl136 (fun _ h9 => h9) rfl dX12_give_178 ?_
    refine lv_iload_n hx hb dX12_give_181 rfl (lv_at hl 2 rfl) ?_
    refine lv_iload_n hx hb dX12_give_182 rfl (lv_at hl 0 rfl) ?_
    refine va_iast hx hb hK hP hD hS 4 0 rfl rfl (show vp_in 6 7 from by unfold vp_in; decide) dX12_give_183 (fun H locs hP hD hS => ?_)
    have hP : va_P E.1 vwCl [(h0, .inr (12, mG q i_taped i_size i_sort i_what i_at i_end i_worth i_faultKind i_faultPlace i_got i_worked (nI dl) i_isPlanned i_bestDone i_bestCost)), (q 51, .inl (E.2.1 0, 512, .inl a_least)), (q 55, .inl (E.2.1 0, 4, .inl a_sets)), (q 54, .inl (E.2.1 0, 7, .inl a_bestGiven)), (q 53, .inl (E.2.1 0, 7, .inl (upd a_given (Int32.toNatClampNeg 6) 0)))] H := hP
    have hD : va_D A [(h0, .inr (12, mG q i_taped i_size i_sort i_what i_at i_end i_worth i_faultKind i_faultPlace i_got i_worked (nI dl) i_isPlanned i_bestDone i_bestCost)), (q 51, .inl (E.2.1 0, 512, .inl a_least)), (q 55, .inl (E.2.1 0, 4, .inl a_sets)), (q 54, .inl (E.2.1 0, 7, .inl a_bestGiven)), (q 53, .inl (E.2.1 0, 7, .inl (upd a_given (Int32.toNatClampNeg 6) 0)))] := hD
    obtain ⟨f_2, ef_2⟩ : ∃ g : Nat → Int32, g = upd a_given (Int32.toNatClampNeg 6) 0 := ⟨_, rfl⟩
    rw [← ef_2] at hP hD
    refine lv_aload_n hx hb dX12_give_184 rfl (lv_at hl 1 rfl) ?_
    refine va_get (D := E.1) (ci := 12) (v := .ref (q 55)) (C := RX12) (T := TX12) (N := 59) hx hb hts inX12 hown hK hP 0 rfl rfl 55 (by decide) fl142 (fun _ h9 => h9) rfl dX12_give_185 ?_
    refine lv_iload_n hx hb dX12_give_188 rfl (lv_at hl 0 rfl) ?_
    refine lv_dup2_11 hx hb dX12_give_189 rfl rfl ?_
    refine va_iald hx hb hK hP 2 0 rfl rfl (show vp_in 0 4 from by unfold vp_in; decide) dX12_give_190 ?_
    refine lv_topi (fun x_3 ex_3 => ?_)
    have hv_4 : inR x_3 0 127 = true := by rw [ex_3]; exact hI_sets _ (vin_cl (show vp_in 0 4 from by unfold vp_in; decide))
    obtain ⟨w_5, hw_6, ew_7⟩ := inR_nI (n := 127) (by decide) hv_4
    subst ew_7
    refine lv_iconst (v := 1) hx hb dX12_give_191 (by decide) ?_
    refine lv_iload_n hx hb dX12_give_192 rfl (lv_at hl 2 rfl) ?_
    refine lv_ishl hx hb dX12_give_193 ?_
    refine lv_topi (fun x_8 ex_8 => ?_)
    obtain rfl : x_8 = 64 := ex_8.trans (by decide +kernel)
    refine lv_ior hx hb dX12_give_194 ?_
    refine lv_topi (fun x_9 ex_9 => ?_)
    refine va_iast hx hb hK hP hD hS 2 0 rfl rfl (show vp_in 0 4 from by unfold vp_in; decide) dX12_give_195 (fun H locs hP hD hS => ?_)
    have hP : va_P E.1 vwCl [(h0, .inr (12, mG q i_taped i_size i_sort i_what i_at i_end i_worth i_faultKind i_faultPlace i_got i_worked (nI dl) i_isPlanned i_bestDone i_bestCost)), (q 51, .inl (E.2.1 0, 512, .inl a_least)), (q 55, .inl (E.2.1 0, 4, .inl (upd a_sets (Int32.toNatClampNeg 0) x_9))), (q 54, .inl (E.2.1 0, 7, .inl a_bestGiven)), (q 53, .inl (E.2.1 0, 7, .inl f_2))] H := hP
    have hD : va_D A [(h0, .inr (12, mG q i_taped i_size i_sort i_what i_at i_end i_worth i_faultKind i_faultPlace i_got i_worked (nI dl) i_isPlanned i_bestDone i_bestCost)), (q 51, .inl (E.2.1 0, 512, .inl a_least)), (q 55, .inl (E.2.1 0, 4, .inl (upd a_sets (Int32.toNatClampNeg 0) x_9))), (q 54, .inl (E.2.1 0, 7, .inl a_bestGiven)), (q 53, .inl (E.2.1 0, 7, .inl f_2))] := hD
    obtain ⟨f_10, ef_10⟩ : ∃ g : Nat → Int32, g = upd a_sets (Int32.toNatClampNeg 0) x_9 := ⟨_, rfl⟩
    rw [← ef_10] at hP hD
    have hI_11 : ∀ k : Nat, k < 4 → inR (f_10 k) 0 127 = true := by rw [ef_10]; exact all_upd (P := fun z => inR z 0 127 = true) hI_sets (by rw [ex_9]; exact or_lt7 _ (by omega) 6 (by decide))
    refine lv_aload_n hx hb dX12_give_196 rfl (lv_at hl 1 rfl) ?_
    refine lv_iload_n hx hb dX12_give_197 rfl (lv_at hl 2 rfl) ?_
    refine lv_iconst (v := 1) hx hb dX12_give_198 (by decide) ?_
    refine lv_iadd hx hb dX12_give_199 ?_
    refine lv_topi (fun x_12 ex_12 => ?_)
    obtain rfl : x_12 = 7 := ex_12.trans (by decide +kernel)
    have hPc := hP.sub (ws' := [(h0, .inr (12, mG q i_taped i_size i_sort i_what i_at i_end i_worth i_faultKind i_faultPlace i_got i_worked (nI dl) i_isPlanned i_bestDone i_bestCost)), (q 51, .inl (E.2.1 0, 512, .inl a_least)), (q 55, .inl (E.2.1 0, 4, .inl f_10)), (q 54, .inl (E.2.1 0, 7, .inl a_bestGiven)), (q 53, .inl (E.2.1 0, 7, .inl f_2))]) [0, 1, 2, 3, 4] rfl
    have hDc := hD.sub (ws' := [(h0, .inr (12, mG q i_taped i_size i_sort i_what i_at i_end i_worth i_faultKind i_faultPlace i_got i_worked (nI dl) i_isPlanned i_bestDone i_bestCost)), (q 51, .inl (E.2.1 0, 512, .inl a_least)), (q 55, .inl (E.2.1 0, 4, .inl f_10)), (q 54, .inl (E.2.1 0, 7, .inl a_bestGiven)), (q 53, .inl (E.2.1 0, 7, .inl f_2))]) [0, 1, 2, 3, 4] (by decide) rfl
    have hFc := va_free (wc := [(h0, .inr (12, mG q i_taped i_size i_sort i_what i_at i_end i_worth i_faultKind i_faultPlace i_got i_worked (nI dl) i_isPlanned i_bestDone i_bestCost)), (q 51, .inl (E.2.1 0, 512, .inl a_least)), (q 55, .inl (E.2.1 0, 4, .inl f_10)), (q 54, .inl (E.2.1 0, 7, .inl a_bestGiven)), (q 53, .inl (E.2.1 0, 7, .inl f_2))]) hD hS hA [0, 1, 2, 3, 4] rfl
    refine va_callv (va_runV (As := [.int 7]) (rest := []) ⟨hx, hb, hml, hown, hts⟩ (c_X12_give7 l E h0 q i_taped i_size i_sort i_what i_at i_end i_worth i_faultKind i_faultPlace i_got i_worked i_isPlanned i_bestDone i_bestCost dl a_least f_10 a_bestGiven f_2 H.size hdl hd2 hI_11) (cwV 1 hts gX12_give_X12_give rfl rfl rfl hdV_X12_give ⟨Nat.le_of_ble_eq_true rfl, Nat.le_of_ble_eq_true rfl⟩) ⟨pcW_blind, va_recv hK hPc (ci := 12) (q0 := 0) rfl rfl, (pcW_pre hPc hkn hDc hst hS hFc)⟩ rfl rfl hl.1 rfl (lv_room (Nat.le_of_ble_eq_true rfl)) dX12_give_200 ⟨Nat.le_of_ble_eq_true rfl, Nat.le_of_ble_eq_true rfl⟩) hS (fun q _ h => hFc q h) hFc (fun u t H1 locs ht hvm hw_14 hB hz1 hk1 hS => ?_)
    obtain ⟨u_15, u_16, u_17, u_18, u_19⟩ := u
    obtain ⟨hf_20, hP1, hD1⟩ := hB
    rw [ht] at hP1
    try dsimp only at hw_14
    obtain ⟨hP, hD⟩ := va_join (wr := []) (w1 := [(h0, .inr (12, mG q i_taped i_size i_sort i_what i_at i_end i_worth i_faultKind i_faultPlace i_got i_worked (nI dl) i_isPlanned u_15 u_16)), (q 51, .inl (E.2.1 0, 512, .inl a_least)), (q 55, .inl (E.2.1 0, 4, .inl u_17)), (q 54, .inl (E.2.1 0, 7, .inl u_18)), (q 53, .inl (E.2.1 0, 7, .inl u_19))]) hP hD [0, 1, 2, 3, 4] [] rfl rfl (by decide) (by decide) hk1 hFc hP1 hD1
    generalize H1 = H at hP hS ⊢
    have hP : va_P E.1 vwCl [(h0, .inr (12, mG q i_taped i_size i_sort i_what i_at i_end i_worth i_faultKind i_faultPlace i_got i_worked (nI dl) i_isPlanned u_15 u_16)), (q 51, .inl (E.2.1 0, 512, .inl a_least)), (q 55, .inl (E.2.1 0, 4, .inl u_17)), (q 54, .inl (E.2.1 0, 7, .inl u_18)), (q 53, .inl (E.2.1 0, 7, .inl u_19))] H := hP
    have hD : va_D A [(h0, .inr (12, mG q i_taped i_size i_sort i_what i_at i_end i_worth i_faultKind i_faultPlace i_got i_worked (nI dl) i_isPlanned u_15 u_16)), (q 51, .inl (E.2.1 0, 512, .inl a_least)), (q 55, .inl (E.2.1 0, 4, .inl u_17)), (q 54, .inl (E.2.1 0, 7, .inl u_18)), (q 53, .inl (E.2.1 0, 7, .inl u_19))] := hD
    refine lv_aload_n hx hb dX12_give_203 rfl (lv_at hl 1 rfl) ?_
    refine va_get (D := E.1) (ci := 12) (v := .ref (q 55)) (C := RX12) (T := TX12) (N := 59) hx hb hts inX12 hown hK hP 0 rfl rfl 55 (by decide) fl142 (fun _ h9 => h9) rfl dX12_give_204 ?_
    refine lv_iload_n hx hb dX12_give_207 rfl (lv_at hl 0 rfl) ?_
    refine lv_dup2_11 hx hb dX12_give_208 rfl rfl ?_
    refine va_iald hx hb hK hP 2 0 rfl rfl (show vp_in 0 4 from by unfold vp_in; decide) dX12_give_209 ?_
    refine lv_topi (fun x_21 ex_21 => ?_)
    have hv_22 : inR x_21 0 127 = true := by rw [ex_21]; exact hf_20 _ (vin_cl (show vp_in 0 4 from by unfold vp_in; decide))
    obtain ⟨w_23, hw_24, ew_25⟩ := inR_nI (n := 127) (by decide) hv_22
    subst ew_25
    refine lv_iconst (v := 1) hx hb dX12_give_210 (by decide) ?_
    refine lv_iload_n hx hb dX12_give_211 rfl (lv_at hl 2 rfl) ?_
    refine lv_ishl hx hb dX12_give_212 ?_
    refine lv_topi (fun x_26 ex_26 => ?_)
    obtain rfl : x_26 = 64 := ex_26.trans (by decide +kernel)
    refine lv_iconst (v := (-1)) hx hb dX12_give_213 (by decide) ?_
    refine lv_ixor hx hb dX12_give_214 ?_
    refine lv_topi (fun x_27 ex_27 => ?_)
    obtain rfl : x_27 = (-65) := ex_27.trans (by decide +kernel)
    refine lv_iand hx hb dX12_give_215 ?_
    refine lv_topi (fun x_28 ex_28 => ?_)
    refine va_iast hx hb hK hP hD hS 2 0 rfl rfl (show vp_in 0 4 from by unfold vp_in; decide) dX12_give_216 (fun H locs hP hD hS => ?_)
    have hP : va_P E.1 vwCl [(h0, .inr (12, mG q i_taped i_size i_sort i_what i_at i_end i_worth i_faultKind i_faultPlace i_got i_worked (nI dl) i_isPlanned u_15 u_16)), (q 51, .inl (E.2.1 0, 512, .inl a_least)), (q 55, .inl (E.2.1 0, 4, .inl (upd u_17 (Int32.toNatClampNeg 0) x_28))), (q 54, .inl (E.2.1 0, 7, .inl u_18)), (q 53, .inl (E.2.1 0, 7, .inl u_19))] H := hP
    have hD : va_D A [(h0, .inr (12, mG q i_taped i_size i_sort i_what i_at i_end i_worth i_faultKind i_faultPlace i_got i_worked (nI dl) i_isPlanned u_15 u_16)), (q 51, .inl (E.2.1 0, 512, .inl a_least)), (q 55, .inl (E.2.1 0, 4, .inl (upd u_17 (Int32.toNatClampNeg 0) x_28))), (q 54, .inl (E.2.1 0, 7, .inl u_18)), (q 53, .inl (E.2.1 0, 7, .inl u_19))] := hD
    obtain ⟨f_29, ef_29⟩ : ∃ g : Nat → Int32, g = upd u_17 (Int32.toNatClampNeg 0) x_28 := ⟨_, rfl⟩
    rw [← ef_29] at hP hD
    have hI_30 : ∀ k : Nat, k < 4 → inR (f_29 k) 0 127 = true := by rw [ef_29]; exact all_upd (P := fun z => inR z 0 127 = true) hf_20 (by rw [ex_28]; exact and_lt7 _ (by omega) 6 (by decide))
    refine lv_iinc (v := 1) (lv' := [(2, .int 1), (0, .ref h0), (1, .int 6)]) hx hb dX12_give_217 hl (k := 0) rfl (by decide) (by decide) rfl (fun ls hl => ?_)
    refine lv_goto (tgt := 172) hx hb dX12_give_220 (by decide) ?_
    refine lv_iload_n hx hb dX12_give_172 rfl (lv_at hl 0 rfl) ?_
    refine lv_iconst (v := 4) hx hb dX12_give_173 (by decide) ?_
    refine lv_icmp_ge (tgt := 223) hx hb dX12_give_174 (by decide) (fun c9 => absurd c9 (by decide)) (fun _ => ?_)
    refine lv_aload_n hx hb dX12_give_177 rfl (lv_at hl 1 rfl) ?_
    refine va_get (D := E.1) (ci := 12) (v := .ref (q 53)) (C := RX12) (T := TX12) (N := 59) hx hb hts inX12 hown hK hP 0 rfl rfl 53 (by decide) fl136 (fun _ h9 => h9) rfl dX12_give_178 ?_
    refine lv_iload_n hx hb dX12_give_181 rfl (lv_at hl 2 rfl) ?_
    refine lv_iload_n hx hb dX12_give_182 rfl (lv_at hl 0 rfl) ?_
    refine va_iast hx hb hK hP hD hS 4 0 rfl rfl (show vp_in 6 7 from by unfold vp_in; decide) dX12_give_183 (fun H locs hP hD hS => ?_)
    have hP : va_P E.1 vwCl [(h0, .inr (12, mG q i_taped i_size i_sort i_what i_at i_end i_worth i_faultKind i_faultPlace i_got i_worked (nI dl) i_isPlanned u_15 u_16)), (q 51, .inl (E.2.1 0, 512, .inl a_least)), (q 55, .inl (E.2.1 0, 4, .inl f_29)), (q 54, .inl (E.2.1 0, 7, .inl u_18)), (q 53, .inl (E.2.1 0, 7, .inl (upd u_19 (Int32.toNatClampNeg 6) 1)))] H := hP
    have hD : va_D A [(h0, .inr (12, mG q i_taped i_size i_sort i_what i_at i_end i_worth i_faultKind i_faultPlace i_got i_worked (nI dl) i_isPlanned u_15 u_16)), (q 51, .inl (E.2.1 0, 512, .inl a_least)), (q 55, .inl (E.2.1 0, 4, .inl f_29)), (q 54, .inl (E.2.1 0, 7, .inl u_18)), (q 53, .inl (E.2.1 0, 7, .inl (upd u_19 (Int32.toNatClampNeg 6) 1)))] := hD
    obtain ⟨f_31, ef_31⟩ : ∃ g : Nat → Int32, g = upd u_19 (Int32.toNatClampNeg 6) 1 := ⟨_, rfl⟩
    rw [← ef_31] at hP hD
    refine lv_aload_n hx hb dX12_give_184 rfl (lv_at hl 1 rfl) ?_
    refine va_get (D := E.1) (ci := 12) (v := .ref (q 55)) (C := RX12) (T := TX12) (N := 59) hx hb hts inX12 hown hK hP 0 rfl rfl 55 (by decide) fl142 (fun _ h9 => h9) rfl dX12_give_185 ?_
    refine lv_iload_n hx hb dX12_give_188 rfl (lv_at hl 0 rfl) ?_
    refine lv_dup2_11 hx hb dX12_give_189 rfl rfl ?_
    refine va_iald hx hb hK hP 2 0 rfl rfl (show vp_in 1 4 from by unfold vp_in; decide) dX12_give_190 ?_
    refine lv_topi (fun x_32 ex_32 => ?_)
    have hv_33 : inR x_32 0 127 = true := by rw [ex_32]; exact hI_30 _ (vin_cl (show vp_in 1 4 from by unfold vp_in; decide))
    obtain ⟨w_34, hw_35, ew_36⟩ := inR_nI (n := 127) (by decide) hv_33
    subst ew_36
    refine lv_iconst (v := 1) hx hb dX12_give_191 (by decide) ?_
    refine lv_iload_n hx hb dX12_give_192 rfl (lv_at hl 2 rfl) ?_
    refine lv_ishl hx hb dX12_give_193 ?_
    refine lv_topi (fun x_37 ex_37 => ?_)
    obtain rfl : x_37 = 64 := ex_37.trans (by decide +kernel)
    refine lv_ior hx hb dX12_give_194 ?_
    refine lv_topi (fun x_38 ex_38 => ?_)
    refine va_iast hx hb hK hP hD hS 2 0 rfl rfl (show vp_in 1 4 from by unfold vp_in; decide) dX12_give_195 (fun H locs hP hD hS => ?_)
    have hP : va_P E.1 vwCl [(h0, .inr (12, mG q i_taped i_size i_sort i_what i_at i_end i_worth i_faultKind i_faultPlace i_got i_worked (nI dl) i_isPlanned u_15 u_16)), (q 51, .inl (E.2.1 0, 512, .inl a_least)), (q 55, .inl (E.2.1 0, 4, .inl (upd f_29 (Int32.toNatClampNeg 1) x_38))), (q 54, .inl (E.2.1 0, 7, .inl u_18)), (q 53, .inl (E.2.1 0, 7, .inl f_31))] H := hP
    have hD : va_D A [(h0, .inr (12, mG q i_taped i_size i_sort i_what i_at i_end i_worth i_faultKind i_faultPlace i_got i_worked (nI dl) i_isPlanned u_15 u_16)), (q 51, .inl (E.2.1 0, 512, .inl a_least)), (q 55, .inl (E.2.1 0, 4, .inl (upd f_29 (Int32.toNatClampNeg 1) x_38))), (q 54, .inl (E.2.1 0, 7, .inl u_18)), (q 53, .inl (E.2.1 0, 7, .inl f_31))] := hD
    obtain ⟨f_39, ef_39⟩ : ∃ g : Nat → Int32, g = upd f_29 (Int32.toNatClampNeg 1) x_38 := ⟨_, rfl⟩
    rw [← ef_39] at hP hD
    have hI_40 : ∀ k : Nat, k < 4 → inR (f_39 k) 0 127 = true := by rw [ef_39]; exact all_upd (P := fun z => inR z 0 127 = true) hI_30 (by rw [ex_38]; exact or_lt7 _ (by omega) 6 (by decide))
    refine lv_aload_n hx hb dX12_give_196 rfl (lv_at hl 1 rfl) ?_
    refine lv_iload_n hx hb dX12_give_197 rfl (lv_at hl 2 rfl) ?_
    refine lv_iconst (v := 1) hx hb dX12_give_198 (by decide) ?_
    refine lv_iadd hx hb dX12_give_199 ?_
    refine lv_topi (fun x_41 ex_41 => ?_)
    obtain rfl : x_41 = 7 := ex_41.trans (by decide +kernel)
    have hPc := hP.sub (ws' := [(h0, .inr (12, mG q i_taped i_size i_sort i_what i_at i_end i_worth i_faultKind i_faultPlace i_got i_worked (nI dl) i_isPlanned u_15 u_16)), (q 51, .inl (E.2.1 0, 512, .inl a_least)), (q 55, .inl (E.2.1 0, 4, .inl f_39)), (q 54, .inl (E.2.1 0, 7, .inl u_18)), (q 53, .inl (E.2.1 0, 7, .inl f_31))]) [0, 1, 2, 3, 4] rfl
    have hDc := hD.sub (ws' := [(h0, .inr (12, mG q i_taped i_size i_sort i_what i_at i_end i_worth i_faultKind i_faultPlace i_got i_worked (nI dl) i_isPlanned u_15 u_16)), (q 51, .inl (E.2.1 0, 512, .inl a_least)), (q 55, .inl (E.2.1 0, 4, .inl f_39)), (q 54, .inl (E.2.1 0, 7, .inl u_18)), (q 53, .inl (E.2.1 0, 7, .inl f_31))]) [0, 1, 2, 3, 4] (by decide) rfl
    have hFc := va_free (wc := [(h0, .inr (12, mG q i_taped i_size i_sort i_what i_at i_end i_worth i_faultKind i_faultPlace i_got i_worked (nI dl) i_isPlanned u_15 u_16)), (q 51, .inl (E.2.1 0, 512, .inl a_least)), (q 55, .inl (E.2.1 0, 4, .inl f_39)), (q 54, .inl (E.2.1 0, 7, .inl u_18)), (q 53, .inl (E.2.1 0, 7, .inl f_31))]) hD hS hA [0, 1, 2, 3, 4] rfl
    refine va_callv (va_runV (As := [.int 7]) (rest := []) ⟨hx, hb, hml, hown, hts⟩ (c_X12_give7 l E h0 q i_taped i_size i_sort i_what i_at i_end i_worth i_faultKind i_faultPlace i_got i_worked i_isPlanned u_15 u_16 dl a_least f_39 u_18 f_31 H.size hdl hd2 hI_40) (cwV 1 hts gX12_give_X12_give rfl rfl rfl hdV_X12_give ⟨Nat.le_of_ble_eq_true rfl, Nat.le_of_ble_eq_true rfl⟩) ⟨pcW_blind, va_recv hK hPc (ci := 12) (q0 := 0) rfl rfl, (pcW_pre hPc hkn hDc hst hS hFc)⟩ rfl rfl hl.1 rfl (lv_room (Nat.le_of_ble_eq_true rfl)) dX12_give_200 ⟨Nat.le_of_ble_eq_true rfl, Nat.le_of_ble_eq_true rfl⟩) hS (fun q _ h => hFc q h) hFc (fun u t H1 locs ht hvm hw_43 hB hz1 hk1 hS => ?_)
    obtain ⟨u_44, u_45, u_46, u_47, u_48⟩ := u
    obtain ⟨hf_49, hP1, hD1⟩ := hB
    rw [ht] at hP1
    try dsimp only at hw_43
    obtain ⟨hP, hD⟩ := va_join (wr := []) (w1 := [(h0, .inr (12, mG q i_taped i_size i_sort i_what i_at i_end i_worth i_faultKind i_faultPlace i_got i_worked (nI dl) i_isPlanned u_44 u_45)), (q 51, .inl (E.2.1 0, 512, .inl a_least)), (q 55, .inl (E.2.1 0, 4, .inl u_46)), (q 54, .inl (E.2.1 0, 7, .inl u_47)), (q 53, .inl (E.2.1 0, 7, .inl u_48))]) hP hD [0, 1, 2, 3, 4] [] rfl rfl (by decide) (by decide) hk1 hFc hP1 hD1
    generalize H1 = H at hP hS ⊢
    have hP : va_P E.1 vwCl [(h0, .inr (12, mG q i_taped i_size i_sort i_what i_at i_end i_worth i_faultKind i_faultPlace i_got i_worked (nI dl) i_isPlanned u_44 u_45)), (q 51, .inl (E.2.1 0, 512, .inl a_least)), (q 55, .inl (E.2.1 0, 4, .inl u_46)), (q 54, .inl (E.2.1 0, 7, .inl u_47)), (q 53, .inl (E.2.1 0, 7, .inl u_48))] H := hP
    have hD : va_D A [(h0, .inr (12, mG q i_taped i_size i_sort i_what i_at i_end i_worth i_faultKind i_faultPlace i_got i_worked (nI dl) i_isPlanned u_44 u_45)), (q 51, .inl (E.2.1 0, 512, .inl a_least)), (q 55, .inl (E.2.1 0, 4, .inl u_46)), (q 54, .inl (E.2.1 0, 7, .inl u_47)), (q 53, .inl (E.2.1 0, 7, .inl u_48))] := hD
    refine lv_aload_n hx hb dX12_give_203 rfl (lv_at hl 1 rfl) ?_
    refine va_get (D := E.1) (ci := 12) (v := .ref (q 55)) (C := RX12) (T := TX12) (N := 59) hx hb hts inX12 hown hK hP 0 rfl rfl 55 (by decide) fl142 (fun _ h9 => h9) rfl dX12_give_204 ?_
    refine lv_iload_n hx hb dX12_give_207 rfl (lv_at hl 0 rfl) ?_
    refine lv_dup2_11 hx hb dX12_give_208 rfl rfl ?_
    refine va_iald hx hb hK hP 2 0 rfl rfl (show vp_in 1 4 from by unfold vp_in; decide) dX12_give_209 ?_
    refine lv_topi (fun x_50 ex_50 => ?_)
    have hv_51 : inR x_50 0 127 = true := by rw [ex_50]; exact hf_49 _ (vin_cl (show vp_in 1 4 from by unfold vp_in; decide))
    obtain ⟨w_52, hw_53, ew_54⟩ := inR_nI (n := 127) (by decide) hv_51
    subst ew_54
    refine lv_iconst (v := 1) hx hb dX12_give_210 (by decide) ?_
    refine lv_iload_n hx hb dX12_give_211 rfl (lv_at hl 2 rfl) ?_
    refine lv_ishl hx hb dX12_give_212 ?_
    refine lv_topi (fun x_55 ex_55 => ?_)
    obtain rfl : x_55 = 64 := ex_55.trans (by decide +kernel)
    refine lv_iconst (v := (-1)) hx hb dX12_give_213 (by decide) ?_
    refine lv_ixor hx hb dX12_give_214 ?_
    refine lv_topi (fun x_56 ex_56 => ?_)
    obtain rfl : x_56 = (-65) := ex_56.trans (by decide +kernel)
    refine lv_iand hx hb dX12_give_215 ?_
    refine lv_topi (fun x_57 ex_57 => ?_)
    refine va_iast hx hb hK hP hD hS 2 0 rfl rfl (show vp_in 1 4 from by unfold vp_in; decide) dX12_give_216 (fun H locs hP hD hS => ?_)
    have hP : va_P E.1 vwCl [(h0, .inr (12, mG q i_taped i_size i_sort i_what i_at i_end i_worth i_faultKind i_faultPlace i_got i_worked (nI dl) i_isPlanned u_44 u_45)), (q 51, .inl (E.2.1 0, 512, .inl a_least)), (q 55, .inl (E.2.1 0, 4, .inl (upd u_46 (Int32.toNatClampNeg 1) x_57))), (q 54, .inl (E.2.1 0, 7, .inl u_47)), (q 53, .inl (E.2.1 0, 7, .inl u_48))] H := hP
    have hD : va_D A [(h0, .inr (12, mG q i_taped i_size i_sort i_what i_at i_end i_worth i_faultKind i_faultPlace i_got i_worked (nI dl) i_isPlanned u_44 u_45)), (q 51, .inl (E.2.1 0, 512, .inl a_least)), (q 55, .inl (E.2.1 0, 4, .inl (upd u_46 (Int32.toNatClampNeg 1) x_57))), (q 54, .inl (E.2.1 0, 7, .inl u_47)), (q 53, .inl (E.2.1 0, 7, .inl u_48))] := hD
    obtain ⟨f_58, ef_58⟩ : ∃ g : Nat → Int32, g = upd u_46 (Int32.toNatClampNeg 1) x_57 := ⟨_, rfl⟩
    rw [← ef_58] at hP hD
    have hI_59 : ∀ k : Nat, k < 4 → inR (f_58 k) 0 127 = true := by rw [ef_58]; exact all_upd (P := fun z => inR z 0 127 = true) hf_49 (by rw [ex_57]; exact and_lt7 _ (by omega) 6 (by decide))
    refine lv_iinc (v := 2) (lv' := [(2, .int 2), (0, .ref h0), (1, .int 6)]) hx hb dX12_give_217 hl (k := 0) rfl (by decide) (by decide) rfl (fun ls hl => ?_)
    refine lv_goto (tgt := 172) hx hb dX12_give_220 (by decide) ?_
    refine lv_iload_n hx hb dX12_give_172 rfl (lv_at hl 0 rfl) ?_
    refine lv_iconst (v := 4) hx hb dX12_give_173 (by decide) ?_
    refine lv_icmp_ge (tgt := 223) hx hb dX12_give_174 (by decide) (fun c9 => absurd c9 (by decide)) (fun _ => ?_)
    refine lv_aload_n hx hb dX12_give_177 rfl (lv_at hl 1 rfl) ?_
    refine va_get (D := E.1) (ci := 12) (v := .ref (q 53)) (C := RX12) (T := TX12) (N := 59) hx hb hts inX12 hown hK hP 0 rfl rfl 53 (by decide) fl136 (fun _ h9 => h9) rfl dX12_give_178 ?_
    refine lv_iload_n hx hb dX12_give_181 rfl (lv_at hl 2 rfl) ?_
    refine lv_iload_n hx hb dX12_give_182 rfl (lv_at hl 0 rfl) ?_
    refine va_iast hx hb hK hP hD hS 4 0 rfl rfl (show vp_in 6 7 from by unfold vp_in; decide) dX12_give_183 (fun H locs hP hD hS => ?_)
    have hP : va_P E.1 vwCl [(h0, .inr (12, mG q i_taped i_size i_sort i_what i_at i_end i_worth i_faultKind i_faultPlace i_got i_worked (nI dl) i_isPlanned u_44 u_45)), (q 51, .inl (E.2.1 0, 512, .inl a_least)), (q 55, .inl (E.2.1 0, 4, .inl f_58)), (q 54, .inl (E.2.1 0, 7, .inl u_47)), (q 53, .inl (E.2.1 0, 7, .inl (upd u_48 (Int32.toNatClampNeg 6) 2)))] H := hP
    have hD : va_D A [(h0, .inr (12, mG q i_taped i_size i_sort i_what i_at i_end i_worth i_faultKind i_faultPlace i_got i_worked (nI dl) i_isPlanned u_44 u_45)), (q 51, .inl (E.2.1 0, 512, .inl a_least)), (q 55, .inl (E.2.1 0, 4, .inl f_58)), (q 54, .inl (E.2.1 0, 7, .inl u_47)), (q 53, .inl (E.2.1 0, 7, .inl (upd u_48 (Int32.toNatClampNeg 6) 2)))] := hD
    obtain ⟨f_60, ef_60⟩ : ∃ g : Nat → Int32, g = upd u_48 (Int32.toNatClampNeg 6) 2 := ⟨_, rfl⟩
    rw [← ef_60] at hP hD
    refine lv_aload_n hx hb dX12_give_184 rfl (lv_at hl 1 rfl) ?_
    refine va_get (D := E.1) (ci := 12) (v := .ref (q 55)) (C := RX12) (T := TX12) (N := 59) hx hb hts inX12 hown hK hP 0 rfl rfl 55 (by decide) fl142 (fun _ h9 => h9) rfl dX12_give_185 ?_
    refine lv_iload_n hx hb dX12_give_188 rfl (lv_at hl 0 rfl) ?_
    refine lv_dup2_11 hx hb dX12_give_189 rfl rfl ?_
    refine va_iald hx hb hK hP 2 0 rfl rfl (show vp_in 2 4 from by unfold vp_in; decide) dX12_give_190 ?_
    refine lv_topi (fun x_61 ex_61 => ?_)
    have hv_62 : inR x_61 0 127 = true := by rw [ex_61]; exact hI_59 _ (vin_cl (show vp_in 2 4 from by unfold vp_in; decide))
    obtain ⟨w_63, hw_64, ew_65⟩ := inR_nI (n := 127) (by decide) hv_62
    subst ew_65
    refine lv_iconst (v := 1) hx hb dX12_give_191 (by decide) ?_
    refine lv_iload_n hx hb dX12_give_192 rfl (lv_at hl 2 rfl) ?_
    refine lv_ishl hx hb dX12_give_193 ?_
    refine lv_topi (fun x_66 ex_66 => ?_)
    obtain rfl : x_66 = 64 := ex_66.trans (by decide +kernel)
    refine lv_ior hx hb dX12_give_194 ?_
    refine lv_topi (fun x_67 ex_67 => ?_)
    refine va_iast hx hb hK hP hD hS 2 0 rfl rfl (show vp_in 2 4 from by unfold vp_in; decide) dX12_give_195 (fun H locs hP hD hS => ?_)
    have hP : va_P E.1 vwCl [(h0, .inr (12, mG q i_taped i_size i_sort i_what i_at i_end i_worth i_faultKind i_faultPlace i_got i_worked (nI dl) i_isPlanned u_44 u_45)), (q 51, .inl (E.2.1 0, 512, .inl a_least)), (q 55, .inl (E.2.1 0, 4, .inl (upd f_58 (Int32.toNatClampNeg 2) x_67))), (q 54, .inl (E.2.1 0, 7, .inl u_47)), (q 53, .inl (E.2.1 0, 7, .inl f_60))] H := hP
    have hD : va_D A [(h0, .inr (12, mG q i_taped i_size i_sort i_what i_at i_end i_worth i_faultKind i_faultPlace i_got i_worked (nI dl) i_isPlanned u_44 u_45)), (q 51, .inl (E.2.1 0, 512, .inl a_least)), (q 55, .inl (E.2.1 0, 4, .inl (upd f_58 (Int32.toNatClampNeg 2) x_67))), (q 54, .inl (E.2.1 0, 7, .inl u_47)), (q 53, .inl (E.2.1 0, 7, .inl f_60))] := hD
    obtain ⟨f_68, ef_68⟩ : ∃ g : Nat → Int32, g = upd f_58 (Int32.toNatClampNeg 2) x_67 := ⟨_, rfl⟩
    rw [← ef_68] at hP hD
    have hI_69 : ∀ k : Nat, k < 4 → inR (f_68 k) 0 127 = true := by rw [ef_68]; exact all_upd (P := fun z => inR z 0 127 = true) hI_59 (by rw [ex_67]; exact or_lt7 _ (by omega) 6 (by decide))
    refine lv_aload_n hx hb dX12_give_196 rfl (lv_at hl 1 rfl) ?_
    refine lv_iload_n hx hb dX12_give_197 rfl (lv_at hl 2 rfl) ?_
    refine lv_iconst (v := 1) hx hb dX12_give_198 (by decide) ?_
    refine lv_iadd hx hb dX12_give_199 ?_
    refine lv_topi (fun x_70 ex_70 => ?_)
    obtain rfl : x_70 = 7 := ex_70.trans (by decide +kernel)
    have hPc := hP.sub (ws' := [(h0, .inr (12, mG q i_taped i_size i_sort i_what i_at i_end i_worth i_faultKind i_faultPlace i_got i_worked (nI dl) i_isPlanned u_44 u_45)), (q 51, .inl (E.2.1 0, 512, .inl a_least)), (q 55, .inl (E.2.1 0, 4, .inl f_68)), (q 54, .inl (E.2.1 0, 7, .inl u_47)), (q 53, .inl (E.2.1 0, 7, .inl f_60))]) [0, 1, 2, 3, 4] rfl
    have hDc := hD.sub (ws' := [(h0, .inr (12, mG q i_taped i_size i_sort i_what i_at i_end i_worth i_faultKind i_faultPlace i_got i_worked (nI dl) i_isPlanned u_44 u_45)), (q 51, .inl (E.2.1 0, 512, .inl a_least)), (q 55, .inl (E.2.1 0, 4, .inl f_68)), (q 54, .inl (E.2.1 0, 7, .inl u_47)), (q 53, .inl (E.2.1 0, 7, .inl f_60))]) [0, 1, 2, 3, 4] (by decide) rfl
    have hFc := va_free (wc := [(h0, .inr (12, mG q i_taped i_size i_sort i_what i_at i_end i_worth i_faultKind i_faultPlace i_got i_worked (nI dl) i_isPlanned u_44 u_45)), (q 51, .inl (E.2.1 0, 512, .inl a_least)), (q 55, .inl (E.2.1 0, 4, .inl f_68)), (q 54, .inl (E.2.1 0, 7, .inl u_47)), (q 53, .inl (E.2.1 0, 7, .inl f_60))]) hD hS hA [0, 1, 2, 3, 4] rfl
    refine va_callv (va_runV (As := [.int 7]) (rest := []) ⟨hx, hb, hml, hown, hts⟩ (c_X12_give7 l E h0 q i_taped i_size i_sort i_what i_at i_end i_worth i_faultKind i_faultPlace i_got i_worked i_isPlanned u_44 u_45 dl a_least f_68 u_47 f_60 H.size hdl hd2 hI_69) (cwV 1 hts gX12_give_X12_give rfl rfl rfl hdV_X12_give ⟨Nat.le_of_ble_eq_true rfl, Nat.le_of_ble_eq_true rfl⟩) ⟨pcW_blind, va_recv hK hPc (ci := 12) (q0 := 0) rfl rfl, (pcW_pre hPc hkn hDc hst hS hFc)⟩ rfl rfl hl.1 rfl (lv_room (Nat.le_of_ble_eq_true rfl)) dX12_give_200 ⟨Nat.le_of_ble_eq_true rfl, Nat.le_of_ble_eq_true rfl⟩) hS (fun q _ h => hFc q h) hFc (fun u t H1 locs ht hvm hw_72 hB hz1 hk1 hS => ?_)
    obtain ⟨u_73, u_74, u_75, u_76, u_77⟩ := u
    obtain ⟨hf_78, hP1, hD1⟩ := hB
    rw [ht] at hP1
    try dsimp only at hw_72
    obtain ⟨hP, hD⟩ := va_join (wr := []) (w1 := [(h0, .inr (12, mG q i_taped i_size i_sort i_what i_at i_end i_worth i_faultKind i_faultPlace i_got i_worked (nI dl) i_isPlanned u_73 u_74)), (q 51, .inl (E.2.1 0, 512, .inl a_least)), (q 55, .inl (E.2.1 0, 4, .inl u_75)), (q 54, .inl (E.2.1 0, 7, .inl u_76)), (q 53, .inl (E.2.1 0, 7, .inl u_77))]) hP hD [0, 1, 2, 3, 4] [] rfl rfl (by decide) (by decide) hk1 hFc hP1 hD1
    generalize H1 = H at hP hS ⊢
    have hP : va_P E.1 vwCl [(h0, .inr (12, mG q i_taped i_size i_sort i_what i_at i_end i_worth i_faultKind i_faultPlace i_got i_worked (nI dl) i_isPlanned u_73 u_74)), (q 51, .inl (E.2.1 0, 512, .inl a_least)), (q 55, .inl (E.2.1 0, 4, .inl u_75)), (q 54, .inl (E.2.1 0, 7, .inl u_76)), (q 53, .inl (E.2.1 0, 7, .inl u_77))] H := hP
    have hD : va_D A [(h0, .inr (12, mG q i_taped i_size i_sort i_what i_at i_end i_worth i_faultKind i_faultPlace i_got i_worked (nI dl) i_isPlanned u_73 u_74)), (q 51, .inl (E.2.1 0, 512, .inl a_least)), (q 55, .inl (E.2.1 0, 4, .inl u_75)), (q 54, .inl (E.2.1 0, 7, .inl u_76)), (q 53, .inl (E.2.1 0, 7, .inl u_77))] := hD
    refine lv_aload_n hx hb dX12_give_203 rfl (lv_at hl 1 rfl) ?_
    refine va_get (D := E.1) (ci := 12) (v := .ref (q 55)) (C := RX12) (T := TX12) (N := 59) hx hb hts inX12 hown hK hP 0 rfl rfl 55 (by decide) fl142 (fun _ h9 => h9) rfl dX12_give_204 ?_
    refine lv_iload_n hx hb dX12_give_207 rfl (lv_at hl 0 rfl) ?_
    refine lv_dup2_11 hx hb dX12_give_208 rfl rfl ?_
    refine va_iald hx hb hK hP 2 0 rfl rfl (show vp_in 2 4 from by unfold vp_in; decide) dX12_give_209 ?_
    refine lv_topi (fun x_79 ex_79 => ?_)
    have hv_80 : inR x_79 0 127 = true := by rw [ex_79]; exact hf_78 _ (vin_cl (show vp_in 2 4 from by unfold vp_in; decide))
    obtain ⟨w_81, hw_82, ew_83⟩ := inR_nI (n := 127) (by decide) hv_80
    subst ew_83
    refine lv_iconst (v := 1) hx hb dX12_give_210 (by decide) ?_
    refine lv_iload_n hx hb dX12_give_211 rfl (lv_at hl 2 rfl) ?_
    refine lv_ishl hx hb dX12_give_212 ?_
    refine lv_topi (fun x_84 ex_84 => ?_)
    obtain rfl : x_84 = 64 := ex_84.trans (by decide +kernel)
    refine lv_iconst (v := (-1)) hx hb dX12_give_213 (by decide) ?_
    refine lv_ixor hx hb dX12_give_214 ?_
    refine lv_topi (fun x_85 ex_85 => ?_)
    obtain rfl : x_85 = (-65) := ex_85.trans (by decide +kernel)
    refine lv_iand hx hb dX12_give_215 ?_
    refine lv_topi (fun x_86 ex_86 => ?_)
    refine va_iast hx hb hK hP hD hS 2 0 rfl rfl (show vp_in 2 4 from by unfold vp_in; decide) dX12_give_216 (fun H locs hP hD hS => ?_)
    have hP : va_P E.1 vwCl [(h0, .inr (12, mG q i_taped i_size i_sort i_what i_at i_end i_worth i_faultKind i_faultPlace i_got i_worked (nI dl) i_isPlanned u_73 u_74)), (q 51, .inl (E.2.1 0, 512, .inl a_least)), (q 55, .inl (E.2.1 0, 4, .inl (upd u_75 (Int32.toNatClampNeg 2) x_86))), (q 54, .inl (E.2.1 0, 7, .inl u_76)), (q 53, .inl (E.2.1 0, 7, .inl u_77))] H := hP
    have hD : va_D A [(h0, .inr (12, mG q i_taped i_size i_sort i_what i_at i_end i_worth i_faultKind i_faultPlace i_got i_worked (nI dl) i_isPlanned u_73 u_74)), (q 51, .inl (E.2.1 0, 512, .inl a_least)), (q 55, .inl (E.2.1 0, 4, .inl (upd u_75 (Int32.toNatClampNeg 2) x_86))), (q 54, .inl (E.2.1 0, 7, .inl u_76)), (q 53, .inl (E.2.1 0, 7, .inl u_77))] := hD
    obtain ⟨f_87, ef_87⟩ : ∃ g : Nat → Int32, g = upd u_75 (Int32.toNatClampNeg 2) x_86 := ⟨_, rfl⟩
    rw [← ef_87] at hP hD
    have hI_88 : ∀ k : Nat, k < 4 → inR (f_87 k) 0 127 = true := by rw [ef_87]; exact all_upd (P := fun z => inR z 0 127 = true) hf_78 (by rw [ex_86]; exact and_lt7 _ (by omega) 6 (by decide))
    refine lv_iinc (v := 3) (lv' := [(2, .int 3), (0, .ref h0), (1, .int 6)]) hx hb dX12_give_217 hl (k := 0) rfl (by decide) (by decide) rfl (fun ls hl => ?_)
    refine lv_goto (tgt := 172) hx hb dX12_give_220 (by decide) ?_
    refine lv_iload_n hx hb dX12_give_172 rfl (lv_at hl 0 rfl) ?_
    refine lv_iconst (v := 4) hx hb dX12_give_173 (by decide) ?_
    refine lv_icmp_ge (tgt := 223) hx hb dX12_give_174 (by decide) (fun c9 => absurd c9 (by decide)) (fun _ => ?_)
    refine lv_aload_n hx hb dX12_give_177 rfl (lv_at hl 1 rfl) ?_
    refine va_get (D := E.1) (ci := 12) (v := .ref (q 53)) (C := RX12) (T := TX12) (N := 59) hx hb hts inX12 hown hK hP 0 rfl rfl 53 (by decide) fl136 (fun _ h9 => h9) rfl dX12_give_178 ?_
    refine lv_iload_n hx hb dX12_give_181 rfl (lv_at hl 2 rfl) ?_
    refine lv_iload_n hx hb dX12_give_182 rfl (lv_at hl 0 rfl) ?_
    refine va_iast hx hb hK hP hD hS 4 0 rfl rfl (show vp_in 6 7 from by unfold vp_in; decide) dX12_give_183 (fun H locs hP hD hS => ?_)
    have hP : va_P E.1 vwCl [(h0, .inr (12, mG q i_taped i_size i_sort i_what i_at i_end i_worth i_faultKind i_faultPlace i_got i_worked (nI dl) i_isPlanned u_73 u_74)), (q 51, .inl (E.2.1 0, 512, .inl a_least)), (q 55, .inl (E.2.1 0, 4, .inl f_87)), (q 54, .inl (E.2.1 0, 7, .inl u_76)), (q 53, .inl (E.2.1 0, 7, .inl (upd u_77 (Int32.toNatClampNeg 6) 3)))] H := hP
    have hD : va_D A [(h0, .inr (12, mG q i_taped i_size i_sort i_what i_at i_end i_worth i_faultKind i_faultPlace i_got i_worked (nI dl) i_isPlanned u_73 u_74)), (q 51, .inl (E.2.1 0, 512, .inl a_least)), (q 55, .inl (E.2.1 0, 4, .inl f_87)), (q 54, .inl (E.2.1 0, 7, .inl u_76)), (q 53, .inl (E.2.1 0, 7, .inl (upd u_77 (Int32.toNatClampNeg 6) 3)))] := hD
    obtain ⟨f_89, ef_89⟩ : ∃ g : Nat → Int32, g = upd u_77 (Int32.toNatClampNeg 6) 3 := ⟨_, rfl⟩
    rw [← ef_89] at hP hD
    refine lv_aload_n hx hb dX12_give_184 rfl (lv_at hl 1 rfl) ?_
    refine va_get (D := E.1) (ci := 12) (v := .ref (q 55)) (C := RX12) (T := TX12) (N := 59) hx hb hts inX12 hown hK hP 0 rfl rfl 55 (by decide) fl142 (fun _ h9 => h9) rfl dX12_give_185 ?_
    refine lv_iload_n hx hb dX12_give_188 rfl (lv_at hl 0 rfl) ?_
    refine lv_dup2_11 hx hb dX12_give_189 rfl rfl ?_
    refine va_iald hx hb hK hP 2 0 rfl rfl (show vp_in 3 4 from by unfold vp_in; decide) dX12_give_190 ?_
    refine lv_topi (fun x_90 ex_90 => ?_)
    have hv_91 : inR x_90 0 127 = true := by rw [ex_90]; exact hI_88 _ (vin_cl (show vp_in 3 4 from by unfold vp_in; decide))
    obtain ⟨w_92, hw_93, ew_94⟩ := inR_nI (n := 127) (by decide) hv_91
    subst ew_94
    refine lv_iconst (v := 1) hx hb dX12_give_191 (by decide) ?_
    refine lv_iload_n hx hb dX12_give_192 rfl (lv_at hl 2 rfl) ?_
    refine lv_ishl hx hb dX12_give_193 ?_
    refine lv_topi (fun x_95 ex_95 => ?_)
    obtain rfl : x_95 = 64 := ex_95.trans (by decide +kernel)
    refine lv_ior hx hb dX12_give_194 ?_
    refine lv_topi (fun x_96 ex_96 => ?_)
    refine va_iast hx hb hK hP hD hS 2 0 rfl rfl (show vp_in 3 4 from by unfold vp_in; decide) dX12_give_195 (fun H locs hP hD hS => ?_)
    have hP : va_P E.1 vwCl [(h0, .inr (12, mG q i_taped i_size i_sort i_what i_at i_end i_worth i_faultKind i_faultPlace i_got i_worked (nI dl) i_isPlanned u_73 u_74)), (q 51, .inl (E.2.1 0, 512, .inl a_least)), (q 55, .inl (E.2.1 0, 4, .inl (upd f_87 (Int32.toNatClampNeg 3) x_96))), (q 54, .inl (E.2.1 0, 7, .inl u_76)), (q 53, .inl (E.2.1 0, 7, .inl f_89))] H := hP
    have hD : va_D A [(h0, .inr (12, mG q i_taped i_size i_sort i_what i_at i_end i_worth i_faultKind i_faultPlace i_got i_worked (nI dl) i_isPlanned u_73 u_74)), (q 51, .inl (E.2.1 0, 512, .inl a_least)), (q 55, .inl (E.2.1 0, 4, .inl (upd f_87 (Int32.toNatClampNeg 3) x_96))), (q 54, .inl (E.2.1 0, 7, .inl u_76)), (q 53, .inl (E.2.1 0, 7, .inl f_89))] := hD
    obtain ⟨f_97, ef_97⟩ : ∃ g : Nat → Int32, g = upd f_87 (Int32.toNatClampNeg 3) x_96 := ⟨_, rfl⟩
    rw [← ef_97] at hP hD
    have hI_98 : ∀ k : Nat, k < 4 → inR (f_97 k) 0 127 = true := by rw [ef_97]; exact all_upd (P := fun z => inR z 0 127 = true) hI_88 (by rw [ex_96]; exact or_lt7 _ (by omega) 6 (by decide))
    refine lv_aload_n hx hb dX12_give_196 rfl (lv_at hl 1 rfl) ?_
    refine lv_iload_n hx hb dX12_give_197 rfl (lv_at hl 2 rfl) ?_
    refine lv_iconst (v := 1) hx hb dX12_give_198 (by decide) ?_
    refine lv_iadd hx hb dX12_give_199 ?_
    refine lv_topi (fun x_99 ex_99 => ?_)
    obtain rfl : x_99 = 7 := ex_99.trans (by decide +kernel)
    have hPc := hP.sub (ws' := [(h0, .inr (12, mG q i_taped i_size i_sort i_what i_at i_end i_worth i_faultKind i_faultPlace i_got i_worked (nI dl) i_isPlanned u_73 u_74)), (q 51, .inl (E.2.1 0, 512, .inl a_least)), (q 55, .inl (E.2.1 0, 4, .inl f_97)), (q 54, .inl (E.2.1 0, 7, .inl u_76)), (q 53, .inl (E.2.1 0, 7, .inl f_89))]) [0, 1, 2, 3, 4] rfl
    have hDc := hD.sub (ws' := [(h0, .inr (12, mG q i_taped i_size i_sort i_what i_at i_end i_worth i_faultKind i_faultPlace i_got i_worked (nI dl) i_isPlanned u_73 u_74)), (q 51, .inl (E.2.1 0, 512, .inl a_least)), (q 55, .inl (E.2.1 0, 4, .inl f_97)), (q 54, .inl (E.2.1 0, 7, .inl u_76)), (q 53, .inl (E.2.1 0, 7, .inl f_89))]) [0, 1, 2, 3, 4] (by decide) rfl
    have hFc := va_free (wc := [(h0, .inr (12, mG q i_taped i_size i_sort i_what i_at i_end i_worth i_faultKind i_faultPlace i_got i_worked (nI dl) i_isPlanned u_73 u_74)), (q 51, .inl (E.2.1 0, 512, .inl a_least)), (q 55, .inl (E.2.1 0, 4, .inl f_97)), (q 54, .inl (E.2.1 0, 7, .inl u_76)), (q 53, .inl (E.2.1 0, 7, .inl f_89))]) hD hS hA [0, 1, 2, 3, 4] rfl
    refine va_callv (va_runV (As := [.int 7]) (rest := []) ⟨hx, hb, hml, hown, hts⟩ (c_X12_give7 l E h0 q i_taped i_size i_sort i_what i_at i_end i_worth i_faultKind i_faultPlace i_got i_worked i_isPlanned u_73 u_74 dl a_least f_97 u_76 f_89 H.size hdl hd2 hI_98) (cwV 1 hts gX12_give_X12_give rfl rfl rfl hdV_X12_give ⟨Nat.le_of_ble_eq_true rfl, Nat.le_of_ble_eq_true rfl⟩) ⟨pcW_blind, va_recv hK hPc (ci := 12) (q0 := 0) rfl rfl, (pcW_pre hPc hkn hDc hst hS hFc)⟩ rfl rfl hl.1 rfl (lv_room (Nat.le_of_ble_eq_true rfl)) dX12_give_200 ⟨Nat.le_of_ble_eq_true rfl, Nat.le_of_ble_eq_true rfl⟩) hS (fun q _ h => hFc q h) hFc (fun u t H1 locs ht hvm hw_101 hB hz1 hk1 hS => ?_)
    obtain ⟨u_102, u_103, u_104, u_105, u_106⟩ := u
    obtain ⟨hf_107, hP1, hD1⟩ := hB
    rw [ht] at hP1
    try dsimp only at hw_101
    obtain ⟨hP, hD⟩ := va_join (wr := []) (w1 := [(h0, .inr (12, mG q i_taped i_size i_sort i_what i_at i_end i_worth i_faultKind i_faultPlace i_got i_worked (nI dl) i_isPlanned u_102 u_103)), (q 51, .inl (E.2.1 0, 512, .inl a_least)), (q 55, .inl (E.2.1 0, 4, .inl u_104)), (q 54, .inl (E.2.1 0, 7, .inl u_105)), (q 53, .inl (E.2.1 0, 7, .inl u_106))]) hP hD [0, 1, 2, 3, 4] [] rfl rfl (by decide) (by decide) hk1 hFc hP1 hD1
    generalize H1 = H at hP hS ⊢
    have hP : va_P E.1 vwCl [(h0, .inr (12, mG q i_taped i_size i_sort i_what i_at i_end i_worth i_faultKind i_faultPlace i_got i_worked (nI dl) i_isPlanned u_102 u_103)), (q 51, .inl (E.2.1 0, 512, .inl a_least)), (q 55, .inl (E.2.1 0, 4, .inl u_104)), (q 54, .inl (E.2.1 0, 7, .inl u_105)), (q 53, .inl (E.2.1 0, 7, .inl u_106))] H := hP
    have hD : va_D A [(h0, .inr (12, mG q i_taped i_size i_sort i_what i_at i_end i_worth i_faultKind i_faultPlace i_got i_worked (nI dl) i_isPlanned u_102 u_103)), (q 51, .inl (E.2.1 0, 512, .inl a_least)), (q 55, .inl (E.2.1 0, 4, .inl u_104)), (q 54, .inl (E.2.1 0, 7, .inl u_105)), (q 53, .inl (E.2.1 0, 7, .inl u_106))] := hD
    refine lv_aload_n hx hb dX12_give_203 rfl (lv_at hl 1 rfl) ?_
    refine va_get (D := E.1) (ci := 12) (v := .ref (q 55)) (C := RX12) (T := TX12) (N := 59) hx hb hts inX12 hown hK hP 0 rfl rfl 55 (by decide) fl142 (fun _ h9 => h9) rfl dX12_give_204 ?_
    refine lv_iload_n hx hb dX12_give_207 rfl (lv_at hl 0 rfl) ?_
    refine lv_dup2_11 hx hb dX12_give_208 rfl rfl ?_
    refine va_iald hx hb hK hP 2 0 rfl rfl (show vp_in 3 4 from by unfold vp_in; decide) dX12_give_209 ?_
    refine lv_topi (fun x_108 ex_108 => ?_)
    have hv_109 : inR x_108 0 127 = true := by rw [ex_108]; exact hf_107 _ (vin_cl (show vp_in 3 4 from by unfold vp_in; decide))
    obtain ⟨w_110, hw_111, ew_112⟩ := inR_nI (n := 127) (by decide) hv_109
    subst ew_112
    refine lv_iconst (v := 1) hx hb dX12_give_210 (by decide) ?_
    refine lv_iload_n hx hb dX12_give_211 rfl (lv_at hl 2 rfl) ?_
    refine lv_ishl hx hb dX12_give_212 ?_
    refine lv_topi (fun x_113 ex_113 => ?_)
    obtain rfl : x_113 = 64 := ex_113.trans (by decide +kernel)
    refine lv_iconst (v := (-1)) hx hb dX12_give_213 (by decide) ?_
    refine lv_ixor hx hb dX12_give_214 ?_
    refine lv_topi (fun x_114 ex_114 => ?_)
    obtain rfl : x_114 = (-65) := ex_114.trans (by decide +kernel)
    refine lv_iand hx hb dX12_give_215 ?_
    refine lv_topi (fun x_115 ex_115 => ?_)
    refine va_iast hx hb hK hP hD hS 2 0 rfl rfl (show vp_in 3 4 from by unfold vp_in; decide) dX12_give_216 (fun H locs hP hD hS => ?_)
    have hP : va_P E.1 vwCl [(h0, .inr (12, mG q i_taped i_size i_sort i_what i_at i_end i_worth i_faultKind i_faultPlace i_got i_worked (nI dl) i_isPlanned u_102 u_103)), (q 51, .inl (E.2.1 0, 512, .inl a_least)), (q 55, .inl (E.2.1 0, 4, .inl (upd u_104 (Int32.toNatClampNeg 3) x_115))), (q 54, .inl (E.2.1 0, 7, .inl u_105)), (q 53, .inl (E.2.1 0, 7, .inl u_106))] H := hP
    have hD : va_D A [(h0, .inr (12, mG q i_taped i_size i_sort i_what i_at i_end i_worth i_faultKind i_faultPlace i_got i_worked (nI dl) i_isPlanned u_102 u_103)), (q 51, .inl (E.2.1 0, 512, .inl a_least)), (q 55, .inl (E.2.1 0, 4, .inl (upd u_104 (Int32.toNatClampNeg 3) x_115))), (q 54, .inl (E.2.1 0, 7, .inl u_105)), (q 53, .inl (E.2.1 0, 7, .inl u_106))] := hD
    obtain ⟨f_116, ef_116⟩ : ∃ g : Nat → Int32, g = upd u_104 (Int32.toNatClampNeg 3) x_115 := ⟨_, rfl⟩
    rw [← ef_116] at hP hD
    have hI_117 : ∀ k : Nat, k < 4 → inR (f_116 k) 0 127 = true := by rw [ef_116]; exact all_upd (P := fun z => inR z 0 127 = true) hf_107 (by rw [ex_115]; exact and_lt7 _ (by omega) 6 (by decide))
    refine lv_iinc (v := 4) (lv' := [(2, .int 4), (0, .ref h0), (1, .int 6)]) hx hb dX12_give_217 hl (k := 0) rfl (by decide) (by decide) rfl (fun ls hl => ?_)
    refine lv_goto (tgt := 172) hx hb dX12_give_220 (by decide) ?_
    refine lv_iload_n hx hb dX12_give_172 rfl (lv_at hl 0 rfl) ?_
    refine lv_iconst (v := 4) hx hb dX12_give_173 (by decide) ?_
    refine lv_icmp_ge (tgt := 223) hx hb dX12_give_174 (by decide) (fun _ => ?_) (fun c9 => absurd c9 (by decide))
    refine lv_aload_n hx hb dX12_give_223 rfl (lv_at hl 1 rfl) ?_
    refine va_get (D := E.1) (ci := 12) (v := .ref (q 53)) (C := RX12) (T := TX12) (N := 59) hx hb hts inX12 hown hK hP 0 rfl rfl 53 (by decide) fl136 (fun _ h9 => h9) rfl dX12_give_224 ?_
    refine lv_iload_n hx hb dX12_give_227 rfl (lv_at hl 2 rfl) ?_
    refine lv_iconst (v := (-1)) hx hb dX12_give_228 (by decide) ?_
    refine va_iast hx hb hK hP hD hS 4 0 rfl rfl (show vp_in 6 7 from by unfold vp_in; decide) dX12_give_229 (fun H locs hP hD hS => ?_)
    have hP : va_P E.1 vwCl [(h0, .inr (12, mG q i_taped i_size i_sort i_what i_at i_end i_worth i_faultKind i_faultPlace i_got i_worked (nI dl) i_isPlanned u_102 u_103)), (q 51, .inl (E.2.1 0, 512, .inl a_least)), (q 55, .inl (E.2.1 0, 4, .inl f_116)), (q 54, .inl (E.2.1 0, 7, .inl u_105)), (q 53, .inl (E.2.1 0, 7, .inl (upd u_106 (Int32.toNatClampNeg 6) (-1))))] H := hP
    have hD : va_D A [(h0, .inr (12, mG q i_taped i_size i_sort i_what i_at i_end i_worth i_faultKind i_faultPlace i_got i_worked (nI dl) i_isPlanned u_102 u_103)), (q 51, .inl (E.2.1 0, 512, .inl a_least)), (q 55, .inl (E.2.1 0, 4, .inl f_116)), (q 54, .inl (E.2.1 0, 7, .inl u_105)), (q 53, .inl (E.2.1 0, 7, .inl (upd u_106 (Int32.toNatClampNeg 6) (-1))))] := hD
    obtain ⟨f_118, ef_118⟩ : ∃ g : Nat → Int32, g = upd u_106 (Int32.toNatClampNeg 6) (-1) := ⟨_, rfl⟩
    rw [← ef_118] at hP hD
    refine lv_aload_n hx hb dX12_give_230 rfl (lv_at hl 1 rfl) ?_
    refine lv_iload_n hx hb dX12_give_231 rfl (lv_at hl 2 rfl) ?_
    refine lv_iconst (v := 1) hx hb dX12_give_232 (by decide) ?_
    refine lv_iadd hx hb dX12_give_233 ?_
    refine lv_topi (fun x_119 ex_119 => ?_)
    obtain rfl : x_119 = 7 := ex_119.trans (by decide +kernel)
    have hPc := hP.sub (ws' := [(h0, .inr (12, mG q i_taped i_size i_sort i_what i_at i_end i_worth i_faultKind i_faultPlace i_got i_worked (nI dl) i_isPlanned u_102 u_103)), (q 51, .inl (E.2.1 0, 512, .inl a_least)), (q 55, .inl (E.2.1 0, 4, .inl f_116)), (q 54, .inl (E.2.1 0, 7, .inl u_105)), (q 53, .inl (E.2.1 0, 7, .inl f_118))]) [0, 1, 2, 3, 4] rfl
    have hDc := hD.sub (ws' := [(h0, .inr (12, mG q i_taped i_size i_sort i_what i_at i_end i_worth i_faultKind i_faultPlace i_got i_worked (nI dl) i_isPlanned u_102 u_103)), (q 51, .inl (E.2.1 0, 512, .inl a_least)), (q 55, .inl (E.2.1 0, 4, .inl f_116)), (q 54, .inl (E.2.1 0, 7, .inl u_105)), (q 53, .inl (E.2.1 0, 7, .inl f_118))]) [0, 1, 2, 3, 4] (by decide) rfl
    have hFc := va_free (wc := [(h0, .inr (12, mG q i_taped i_size i_sort i_what i_at i_end i_worth i_faultKind i_faultPlace i_got i_worked (nI dl) i_isPlanned u_102 u_103)), (q 51, .inl (E.2.1 0, 512, .inl a_least)), (q 55, .inl (E.2.1 0, 4, .inl f_116)), (q 54, .inl (E.2.1 0, 7, .inl u_105)), (q 53, .inl (E.2.1 0, 7, .inl f_118))]) hD hS hA [0, 1, 2, 3, 4] rfl
    refine va_callv (va_runV (As := [.int 7]) (rest := []) ⟨hx, hb, hml, hown, hts⟩ (c_X12_give7 l E h0 q i_taped i_size i_sort i_what i_at i_end i_worth i_faultKind i_faultPlace i_got i_worked i_isPlanned u_102 u_103 dl a_least f_116 u_105 f_118 H.size hdl hd2 hI_117) (cwV 1 hts gX12_give_X12_give rfl rfl rfl hdV_X12_give ⟨Nat.le_of_ble_eq_true rfl, Nat.le_of_ble_eq_true rfl⟩) ⟨pcW_blind, va_recv hK hPc (ci := 12) (q0 := 0) rfl rfl, (pcW_pre hPc hkn hDc hst hS hFc)⟩ rfl rfl hl.1 rfl (lv_room (Nat.le_of_ble_eq_true rfl)) dX12_give_234 ⟨Nat.le_of_ble_eq_true rfl, Nat.le_of_ble_eq_true rfl⟩) hS (fun q _ h => hFc q h) hFc (fun u t H1 locs ht hvm hw_121 hB hz1 hk1 hS => ?_)
    obtain ⟨u_122, u_123, u_124, u_125, u_126⟩ := u
    obtain ⟨hf_127, hP1, hD1⟩ := hB
    rw [ht] at hP1
    try dsimp only at hw_121
    obtain ⟨hP, hD⟩ := va_join (wr := []) (w1 := [(h0, .inr (12, mG q i_taped i_size i_sort i_what i_at i_end i_worth i_faultKind i_faultPlace i_got i_worked (nI dl) i_isPlanned u_122 u_123)), (q 51, .inl (E.2.1 0, 512, .inl a_least)), (q 55, .inl (E.2.1 0, 4, .inl u_124)), (q 54, .inl (E.2.1 0, 7, .inl u_125)), (q 53, .inl (E.2.1 0, 7, .inl u_126))]) hP hD [0, 1, 2, 3, 4] [] rfl rfl (by decide) (by decide) hk1 hFc hP1 hD1
    generalize H1 = H at hP hS ⊢
    have hP : va_P E.1 vwCl [(h0, .inr (12, mG q i_taped i_size i_sort i_what i_at i_end i_worth i_faultKind i_faultPlace i_got i_worked (nI dl) i_isPlanned u_122 u_123)), (q 51, .inl (E.2.1 0, 512, .inl a_least)), (q 55, .inl (E.2.1 0, 4, .inl u_124)), (q 54, .inl (E.2.1 0, 7, .inl u_125)), (q 53, .inl (E.2.1 0, 7, .inl u_126))] H := hP
    have hD : va_D A [(h0, .inr (12, mG q i_taped i_size i_sort i_what i_at i_end i_worth i_faultKind i_faultPlace i_got i_worked (nI dl) i_isPlanned u_122 u_123)), (q 51, .inl (E.2.1 0, 512, .inl a_least)), (q 55, .inl (E.2.1 0, 4, .inl u_124)), (q 54, .inl (E.2.1 0, 7, .inl u_125)), (q 53, .inl (E.2.1 0, 7, .inl u_126))] := hD
    have hP9 := hP.sub (ws' := [(h0, .inr (12, mG q i_taped i_size i_sort i_what i_at i_end i_worth i_faultKind i_faultPlace i_got i_worked (nI dl) i_isPlanned u_122 u_123)), (q 51, .inl (E.2.1 0, 512, .inl a_least)), (q 55, .inl (E.2.1 0, 4, .inl u_124)), (q 54, .inl (E.2.1 0, 7, .inl u_125)), (q 53, .inl (E.2.1 0, 7, .inl u_126))]) [0, 1, 2, 3, 4] rfl
    have hD9 := hD.sub (ws' := [(h0, .inr (12, mG q i_taped i_size i_sort i_what i_at i_end i_worth i_faultKind i_faultPlace i_got i_worked (nI dl) i_isPlanned u_122 u_123)), (q 51, .inl (E.2.1 0, 512, .inl a_least)), (q 55, .inl (E.2.1 0, 4, .inl u_124)), (q 54, .inl (E.2.1 0, 7, .inl u_125)), (q 53, .inl (E.2.1 0, 7, .inl u_126))]) [0, 1, 2, 3, 4] (by decide) rfl
    exact W.vret hx hb hr (fun t ht hW => ⟨⟨(u_122, u_123, u_124, u_125, u_126), rfl, trivial, hf_127, by rw [ht]; exact hP9, hD9⟩, hS.F ht⟩) hS.2.2 dX12_give_237
  · refine lv_iconst (v := 0) hx hb dX12_give_8 (by decide) ?_
    refine lv_istore_n (lv' := [(2, .int 0), (0, .ref h0), (1, .int 6)]) hx hb dX12_give_9 rfl hl (by decide) rfl (fun ls hl => ?_)
    refine lv_iconst (v := 0) hx hb dX12_give_10 (by decide) ?_
    refine lv_istore_n (lv' := [(3, .int 0), (2, .int 0), (0, .ref h0), (1, .int 6)]) hx hb dX12_give_11 rfl hl (by decide) rfl (fun ls hl => ?_)
    refine lv_iconst (v := 0) hx hb dX12_give_12 (by decide) ?_
    refine lv_istore (lv' := [(4, .int 0), (3, .int 0), (2, .int 0), (0, .ref h0), (1, .int 6)]) hx hb dX12_give_13 hl (by decide) rfl (fun ls hl => ?_)
    refine lv_iload hx hb dX12_give_15 (lv_at hl 0 rfl) ?_
    refine lv_iconst (v := 4) hx hb dX12_give_17 (by decide) ?_
    refine lv_icmp_ge (tgt := 102) hx hb dX12_give_18 (by decide) (fun c9 => absurd c9 (by decide)) (fun _ => ?_)
    refine lv_aload_n hx hb dX12_give_21 rfl (lv_at hl 3 rfl) ?_
    refine va_get (D := E.1) (ci := 12) (v := .ref (q 51)) (C := RX12) (T := TX12) (N := 59) hx hb hts inX12 hown hK hP 0 rfl rfl 51 (by decide) fl130 (fun _ h9 => h9) rfl dX12_give_22 ?_
    refine lv_sipush (v := 128) hx hb dX12_give_25 (by decide) ?_
    refine lv_iload hx hb dX12_give_28 (lv_at hl 0 rfl) ?_
    refine lv_imul hx hb dX12_give_30 ?_
    refine lv_topi (fun x_128 ex_128 => ?_)
    obtain rfl : x_128 = 0 := ex_128.trans (by decide +kernel)
    refine lv_aload_n hx hb dX12_give_31 rfl (lv_at hl 3 rfl) ?_
    refine va_get (D := E.1) (ci := 12) (v := .ref (q 55)) (C := RX12) (T := TX12) (N := 59) hx hb hts inX12 hown hK hP 0 rfl rfl 55 (by decide) fl142 (fun _ h9 => h9) rfl dX12_give_32 ?_
    refine lv_iload hx hb dX12_give_35 (lv_at hl 0 rfl) ?_
    refine va_iald hx hb hK hP 2 0 rfl rfl (show vp_in 0 4 from by unfold vp_in; decide) dX12_give_37 ?_
    refine lv_topi (fun x_129 ex_129 => ?_)
    have hv_130 : inR x_129 0 127 = true := by rw [ex_129]; exact hI_sets _ (vin_cl (show vp_in 0 4 from by unfold vp_in; decide))
    obtain ⟨w_131, hw_132, ew_133⟩ := inR_nI (n := 127) (by decide) hv_130
    subst ew_133
    refine lv_iadd hx hb dX12_give_38 ?_
    refine lv_topi (fun x_134 ex_134 => ?_)
    obtain rfl : x_134 = nI (0 + w_131) := ex_134.trans (nI_add 0 w_131)
    have hi_135 : vp_in (nI (0 + w_131)) 512 := vp_in_nI (by omega) (by decide)
    refine va_iald hx hb hK hP 1 0 rfl rfl hi_135 dX12_give_39 ?_
    refine lv_topi (fun x_136 ex_136 => ?_)
    refine lv_iconst (v := (-1)) hx hb dX12_give_40 (by decide) ?_
    refine lv_icmp_ne (tgt := 45) hx hb dX12_give_41 (by decide) (fun c_137 => ?_) (fun c_137 => ?_)
    · refine lv_iload_n hx hb dX12_give_45 rfl (lv_at hl 1 rfl) ?_
      refine lv_aload_n hx hb dX12_give_46 rfl (lv_at hl 3 rfl) ?_
      refine va_get (D := E.1) (ci := 12) (v := .ref (q 51)) (C := RX12) (T := TX12) (N := 59) hx hb hts inX12 hown hK hP 0 rfl rfl 51 (by decide) fl130 (fun _ h9 => h9) rfl dX12_give_47 ?_
      refine lv_sipush (v := 128) hx hb dX12_give_50 (by decide) ?_
      refine lv_iload hx hb dX12_give_53 (lv_at hl 0 rfl) ?_
      refine lv_imul hx hb dX12_give_55 ?_
      refine lv_topi (fun x_138 ex_138 => ?_)
      obtain rfl : x_138 = 0 := ex_138.trans (by decide +kernel)
      refine lv_aload_n hx hb dX12_give_56 rfl (lv_at hl 3 rfl) ?_
      refine va_get (D := E.1) (ci := 12) (v := .ref (q 55)) (C := RX12) (T := TX12) (N := 59) hx hb hts inX12 hown hK hP 0 rfl rfl 55 (by decide) fl142 (fun _ h9 => h9) rfl dX12_give_57 ?_
      refine lv_iload hx hb dX12_give_60 (lv_at hl 0 rfl) ?_
      refine va_iald hx hb hK hP 2 0 rfl rfl (show vp_in 0 4 from by unfold vp_in; decide) dX12_give_62 ?_
      refine lv_topi (fun x_139 ex_139 => ?_)
      obtain rfl : x_139 = nI w_131 := ex_139.trans ex_129.symm
      refine lv_iadd hx hb dX12_give_63 ?_
      refine lv_topi (fun x_140 ex_140 => ?_)
      obtain rfl : x_140 = nI (0 + w_131) := ex_140.trans (nI_add 0 w_131)
      refine va_iald hx hb hK hP 1 0 rfl rfl hi_135 dX12_give_64 ?_
      refine lv_topi (fun x_141 ex_141 => ?_)
      refine lv_iadd hx hb dX12_give_65 ?_
      refine lv_topi (fun x_142 ex_142 => ?_)
      refine lv_istore_n (lv' := [(3, .int x_142), (4, .int 0), (2, .int 0), (0, .ref h0), (1, .int 6)]) hx hb dX12_give_66 rfl hl (by decide) rfl (fun ls hl => ?_)
      refine lv_aload_n hx hb dX12_give_67 rfl (lv_at hl 3 rfl) ?_
      refine va_get (D := E.1) (ci := 12) (v := .ref (q 55)) (C := RX12) (T := TX12) (N := 59) hx hb hts inX12 hown hK hP 0 rfl rfl 55 (by decide) fl142 (fun _ h9 => h9) rfl dX12_give_68 ?_
      refine lv_iload hx hb dX12_give_71 (lv_at hl 1 rfl) ?_
      refine va_iald hx hb hK hP 2 0 rfl rfl (show vp_in 0 4 from by unfold vp_in; decide) dX12_give_73 ?_
      refine lv_topi (fun x_143 ex_143 => ?_)
      obtain rfl : x_143 = nI w_131 := ex_143.trans ex_129.symm
      refine lv_istore (lv' := [(5, .int (nI w_131)), (3, .int x_142), (4, .int 0), (2, .int 0), (0, .ref h0), (1, .int 6)]) hx hb dX12_give_74 hl (by decide) rfl (fun ls hl => ?_)
      have hPl := hP.sub (ws' := [(h0, .inr (12, mG q i_taped i_size i_sort i_what i_at i_end i_worth i_faultKind i_faultPlace i_got i_worked (nI dl) i_isPlanned i_bestDone i_bestCost)), (q 51, .inl (E.2.1 0, 512, .inl a_least)), (q 55, .inl (E.2.1 0, 4, .inl a_sets)), (q 54, .inl (E.2.1 0, 7, .inl a_bestGiven)), (q 53, .inl (E.2.1 0, 7, .inl a_given))]) [0, 1, 2, 3, 4] rfl
      have hDl := hD.sub (ws' := [(h0, .inr (12, mG q i_taped i_size i_sort i_what i_at i_end i_worth i_faultKind i_faultPlace i_got i_worked (nI dl) i_isPlanned i_bestDone i_bestCost)), (q 51, .inl (E.2.1 0, 512, .inl a_least)), (q 55, .inl (E.2.1 0, 4, .inl a_sets)), (q 54, .inl (E.2.1 0, 7, .inl a_bestGiven)), (q 53, .inl (E.2.1 0, 7, .inl a_given))]) [0, 1, 2, 3, 4] (by decide) rfl
      refine lm_bits E h0 q i_taped i_size i_sort i_what i_at i_end i_worth i_faultKind i_faultPlace i_got i_worked i_isPlanned i_bestDone i_bestCost dl x_142 0 ([(q 51, .inl (E.2.1 0, 512, .inl a_least)), (q 55, .inl (E.2.1 0, 4, .inl a_sets)), (q 54, .inl (E.2.1 0, 7, .inl a_bestGiven)), (q 53, .inl (E.2.1 0, 7, .inl a_given))]) hx hb hml hown hts hkn hst hA  (fun n_144 H locs ls  hP hD hS hl => ?_) (w_131 + 1) w_131 0 _ _ _ (Nat.lt_succ_self _) hPl hDl hS (lv_sub hl [4, 3, 1, 2, 0] rfl)
      have hP : va_P E.1 vwCl [(h0, .inr (12, mG q i_taped i_size i_sort i_what i_at i_end i_worth i_faultKind i_faultPlace i_got i_worked (nI dl) i_isPlanned i_bestDone i_bestCost)), (q 51, .inl (E.2.1 0, 512, .inl a_least)), (q 55, .inl (E.2.1 0, 4, .inl a_sets)), (q 54, .inl (E.2.1 0, 7, .inl a_bestGiven)), (q 53, .inl (E.2.1 0, 7, .inl a_given))] H := hP
      have hD : va_D A [(h0, .inr (12, mG q i_taped i_size i_sort i_what i_at i_end i_worth i_faultKind i_faultPlace i_got i_worked (nI dl) i_isPlanned i_bestDone i_bestCost)), (q 51, .inl (E.2.1 0, 512, .inl a_least)), (q 55, .inl (E.2.1 0, 4, .inl a_sets)), (q 54, .inl (E.2.1 0, 7, .inl a_bestGiven)), (q 53, .inl (E.2.1 0, 7, .inl a_given))] := hD
      refine lv_iinc (v := 1) (lv' := [(4, .int 1), (0, .ref h0), (2, .int n_144), (3, .int x_142)]) hx hb dX12_give_96 hl (k := 3) rfl (by decide) (by decide) rfl (fun ls hl => ?_)
      refine lv_goto (tgt := 15) hx hb dX12_give_99 (by decide) ?_
      refine lv_iload hx hb dX12_give_15 (lv_at hl 0 rfl) ?_
      refine lv_iconst (v := 4) hx hb dX12_give_17 (by decide) ?_
      refine lv_icmp_ge (tgt := 102) hx hb dX12_give_18 (by decide) (fun c9 => absurd c9 (by decide)) (fun _ => ?_)
      refine lv_aload_n hx hb dX12_give_21 rfl (lv_at hl 1 rfl) ?_
      refine va_get (D := E.1) (ci := 12) (v := .ref (q 51)) (C := RX12) (T := TX12) (N := 59) hx hb hts inX12 hown hK hP 0 rfl rfl 51 (by decide) fl130 (fun _ h9 => h9) rfl dX12_give_22 ?_
      refine lv_sipush (v := 128) hx hb dX12_give_25 (by decide) ?_
      refine lv_iload hx hb dX12_give_28 (lv_at hl 0 rfl) ?_
      refine lv_imul hx hb dX12_give_30 ?_
      refine lv_topi (fun x_145 ex_145 => ?_)
      obtain rfl : x_145 = 128 := ex_145.trans (by decide +kernel)
      refine lv_aload_n hx hb dX12_give_31 rfl (lv_at hl 1 rfl) ?_
      refine va_get (D := E.1) (ci := 12) (v := .ref (q 55)) (C := RX12) (T := TX12) (N := 59) hx hb hts inX12 hown hK hP 0 rfl rfl 55 (by decide) fl142 (fun _ h9 => h9) rfl dX12_give_32 ?_
      refine lv_iload hx hb dX12_give_35 (lv_at hl 0 rfl) ?_
      refine va_iald hx hb hK hP 2 0 rfl rfl (show vp_in 1 4 from by unfold vp_in; decide) dX12_give_37 ?_
      refine lv_topi (fun x_146 ex_146 => ?_)
      have hv_147 : inR x_146 0 127 = true := by rw [ex_146]; exact hI_sets _ (vin_cl (show vp_in 1 4 from by unfold vp_in; decide))
      obtain ⟨w_148, hw_149, ew_150⟩ := inR_nI (n := 127) (by decide) hv_147
      subst ew_150
      refine lv_iadd hx hb dX12_give_38 ?_
      refine lv_topi (fun x_151 ex_151 => ?_)
      obtain rfl : x_151 = nI (128 + w_148) := ex_151.trans (nI_add 128 w_148)
      have hi_152 : vp_in (nI (128 + w_148)) 512 := vp_in_nI (by omega) (by decide)
      refine va_iald hx hb hK hP 1 0 rfl rfl hi_152 dX12_give_39 ?_
      refine lv_topi (fun x_153 ex_153 => ?_)
      refine lv_iconst (v := (-1)) hx hb dX12_give_40 (by decide) ?_
      refine lv_icmp_ne (tgt := 45) hx hb dX12_give_41 (by decide) (fun c_154 => ?_) (fun c_154 => ?_)
      · refine lv_iload_n hx hb dX12_give_45 rfl (lv_at hl 3 rfl) ?_
        refine lv_aload_n hx hb dX12_give_46 rfl (lv_at hl 1 rfl) ?_
        refine va_get (D := E.1) (ci := 12) (v := .ref (q 51)) (C := RX12) (T := TX12) (N := 59) hx hb hts inX12 hown hK hP 0 rfl rfl 51 (by decide) fl130 (fun _ h9 => h9) rfl dX12_give_47 ?_
        refine lv_sipush (v := 128) hx hb dX12_give_50 (by decide) ?_
        refine lv_iload hx hb dX12_give_53 (lv_at hl 0 rfl) ?_
        refine lv_imul hx hb dX12_give_55 ?_
        refine lv_topi (fun x_155 ex_155 => ?_)
        obtain rfl : x_155 = 128 := ex_155.trans (by decide +kernel)
        refine lv_aload_n hx hb dX12_give_56 rfl (lv_at hl 1 rfl) ?_
        refine va_get (D := E.1) (ci := 12) (v := .ref (q 55)) (C := RX12) (T := TX12) (N := 59) hx hb hts inX12 hown hK hP 0 rfl rfl 55 (by decide) fl142 (fun _ h9 => h9) rfl dX12_give_57 ?_
        refine lv_iload hx hb dX12_give_60 (lv_at hl 0 rfl) ?_
        refine va_iald hx hb hK hP 2 0 rfl rfl (show vp_in 1 4 from by unfold vp_in; decide) dX12_give_62 ?_
        refine lv_topi (fun x_156 ex_156 => ?_)
        obtain rfl : x_156 = nI w_148 := ex_156.trans ex_146.symm
        refine lv_iadd hx hb dX12_give_63 ?_
        refine lv_topi (fun x_157 ex_157 => ?_)
        obtain rfl : x_157 = nI (128 + w_148) := ex_157.trans (nI_add 128 w_148)
        refine va_iald hx hb hK hP 1 0 rfl rfl hi_152 dX12_give_64 ?_
        refine lv_topi (fun x_158 ex_158 => ?_)
        refine lv_iadd hx hb dX12_give_65 ?_
        refine lv_topi (fun x_159 ex_159 => ?_)
        refine lv_istore_n (lv' := [(3, .int x_159), (4, .int 1), (0, .ref h0), (2, .int n_144)]) hx hb dX12_give_66 rfl hl (by decide) rfl (fun ls hl => ?_)
        refine lv_aload_n hx hb dX12_give_67 rfl (lv_at hl 2 rfl) ?_
        refine va_get (D := E.1) (ci := 12) (v := .ref (q 55)) (C := RX12) (T := TX12) (N := 59) hx hb hts inX12 hown hK hP 0 rfl rfl 55 (by decide) fl142 (fun _ h9 => h9) rfl dX12_give_68 ?_
        refine lv_iload hx hb dX12_give_71 (lv_at hl 1 rfl) ?_
        refine va_iald hx hb hK hP 2 0 rfl rfl (show vp_in 1 4 from by unfold vp_in; decide) dX12_give_73 ?_
        refine lv_topi (fun x_160 ex_160 => ?_)
        obtain rfl : x_160 = nI w_148 := ex_160.trans ex_146.symm
        refine lv_istore (lv' := [(5, .int (nI w_148)), (3, .int x_159), (4, .int 1), (0, .ref h0), (2, .int n_144)]) hx hb dX12_give_74 hl (by decide) rfl (fun ls hl => ?_)
        have hPl := hP.sub (ws' := [(h0, .inr (12, mG q i_taped i_size i_sort i_what i_at i_end i_worth i_faultKind i_faultPlace i_got i_worked (nI dl) i_isPlanned i_bestDone i_bestCost)), (q 51, .inl (E.2.1 0, 512, .inl a_least)), (q 55, .inl (E.2.1 0, 4, .inl a_sets)), (q 54, .inl (E.2.1 0, 7, .inl a_bestGiven)), (q 53, .inl (E.2.1 0, 7, .inl a_given))]) [0, 1, 2, 3, 4] rfl
        have hDl := hD.sub (ws' := [(h0, .inr (12, mG q i_taped i_size i_sort i_what i_at i_end i_worth i_faultKind i_faultPlace i_got i_worked (nI dl) i_isPlanned i_bestDone i_bestCost)), (q 51, .inl (E.2.1 0, 512, .inl a_least)), (q 55, .inl (E.2.1 0, 4, .inl a_sets)), (q 54, .inl (E.2.1 0, 7, .inl a_bestGiven)), (q 53, .inl (E.2.1 0, 7, .inl a_given))]) [0, 1, 2, 3, 4] (by decide) rfl
        refine lm_bits E h0 q i_taped i_size i_sort i_what i_at i_end i_worth i_faultKind i_faultPlace i_got i_worked i_isPlanned i_bestDone i_bestCost dl x_159 1 ([(q 51, .inl (E.2.1 0, 512, .inl a_least)), (q 55, .inl (E.2.1 0, 4, .inl a_sets)), (q 54, .inl (E.2.1 0, 7, .inl a_bestGiven)), (q 53, .inl (E.2.1 0, 7, .inl a_given))]) hx hb hml hown hts hkn hst hA  (fun n_161 H locs ls  hP hD hS hl => ?_) (w_148 + 1) w_148 n_144 _ _ _ (Nat.lt_succ_self _) hPl hDl hS (lv_sub hl [3, 4, 1, 2, 0] rfl)
        have hP : va_P E.1 vwCl [(h0, .inr (12, mG q i_taped i_size i_sort i_what i_at i_end i_worth i_faultKind i_faultPlace i_got i_worked (nI dl) i_isPlanned i_bestDone i_bestCost)), (q 51, .inl (E.2.1 0, 512, .inl a_least)), (q 55, .inl (E.2.1 0, 4, .inl a_sets)), (q 54, .inl (E.2.1 0, 7, .inl a_bestGiven)), (q 53, .inl (E.2.1 0, 7, .inl a_given))] H := hP
        have hD : va_D A [(h0, .inr (12, mG q i_taped i_size i_sort i_what i_at i_end i_worth i_faultKind i_faultPlace i_got i_worked (nI dl) i_isPlanned i_bestDone i_bestCost)), (q 51, .inl (E.2.1 0, 512, .inl a_least)), (q 55, .inl (E.2.1 0, 4, .inl a_sets)), (q 54, .inl (E.2.1 0, 7, .inl a_bestGiven)), (q 53, .inl (E.2.1 0, 7, .inl a_given))] := hD
        refine lv_iinc (v := 2) (lv' := [(4, .int 2), (0, .ref h0), (2, .int n_161), (3, .int x_159)]) hx hb dX12_give_96 hl (k := 3) rfl (by decide) (by decide) rfl (fun ls hl => ?_)
        refine lv_goto (tgt := 15) hx hb dX12_give_99 (by decide) ?_
        refine lv_iload hx hb dX12_give_15 (lv_at hl 0 rfl) ?_
        refine lv_iconst (v := 4) hx hb dX12_give_17 (by decide) ?_
        refine lv_icmp_ge (tgt := 102) hx hb dX12_give_18 (by decide) (fun c9 => absurd c9 (by decide)) (fun _ => ?_)
        refine lv_aload_n hx hb dX12_give_21 rfl (lv_at hl 1 rfl) ?_
        refine va_get (D := E.1) (ci := 12) (v := .ref (q 51)) (C := RX12) (T := TX12) (N := 59) hx hb hts inX12 hown hK hP 0 rfl rfl 51 (by decide) fl130 (fun _ h9 => h9) rfl dX12_give_22 ?_
        refine lv_sipush (v := 128) hx hb dX12_give_25 (by decide) ?_
        refine lv_iload hx hb dX12_give_28 (lv_at hl 0 rfl) ?_
        refine lv_imul hx hb dX12_give_30 ?_
        refine lv_topi (fun x_162 ex_162 => ?_)
        obtain rfl : x_162 = 256 := ex_162.trans (by decide +kernel)
        refine lv_aload_n hx hb dX12_give_31 rfl (lv_at hl 1 rfl) ?_
        refine va_get (D := E.1) (ci := 12) (v := .ref (q 55)) (C := RX12) (T := TX12) (N := 59) hx hb hts inX12 hown hK hP 0 rfl rfl 55 (by decide) fl142 (fun _ h9 => h9) rfl dX12_give_32 ?_
        refine lv_iload hx hb dX12_give_35 (lv_at hl 0 rfl) ?_
        refine va_iald hx hb hK hP 2 0 rfl rfl (show vp_in 2 4 from by unfold vp_in; decide) dX12_give_37 ?_
        refine lv_topi (fun x_163 ex_163 => ?_)
        have hv_164 : inR x_163 0 127 = true := by rw [ex_163]; exact hI_sets _ (vin_cl (show vp_in 2 4 from by unfold vp_in; decide))
        obtain ⟨w_165, hw_166, ew_167⟩ := inR_nI (n := 127) (by decide) hv_164
        subst ew_167
        refine lv_iadd hx hb dX12_give_38 ?_
        refine lv_topi (fun x_168 ex_168 => ?_)
        obtain rfl : x_168 = nI (256 + w_165) := ex_168.trans (nI_add 256 w_165)
        have hi_169 : vp_in (nI (256 + w_165)) 512 := vp_in_nI (by omega) (by decide)
        refine va_iald hx hb hK hP 1 0 rfl rfl hi_169 dX12_give_39 ?_
        refine lv_topi (fun x_170 ex_170 => ?_)
        refine lv_iconst (v := (-1)) hx hb dX12_give_40 (by decide) ?_
        refine lv_icmp_ne (tgt := 45) hx hb dX12_give_41 (by decide) (fun c_171 => ?_) (fun c_171 => ?_)
        · refine lv_iload_n hx hb dX12_give_45 rfl (lv_at hl 3 rfl) ?_
          refine lv_aload_n hx hb dX12_give_46 rfl (lv_at hl 1 rfl) ?_
          refine va_get (D := E.1) (ci := 12) (v := .ref (q 51)) (C := RX12) (T := TX12) (N := 59) hx hb hts inX12 hown hK hP 0 rfl rfl 51 (by decide) fl130 (fun _ h9 => h9) rfl dX12_give_47 ?_
          refine lv_sipush (v := 128) hx hb dX12_give_50 (by decide) ?_
          refine lv_iload hx hb dX12_give_53 (lv_at hl 0 rfl) ?_
          refine lv_imul hx hb dX12_give_55 ?_
          refine lv_topi (fun x_172 ex_172 => ?_)
          obtain rfl : x_172 = 256 := ex_172.trans (by decide +kernel)
          refine lv_aload_n hx hb dX12_give_56 rfl (lv_at hl 1 rfl) ?_
          refine va_get (D := E.1) (ci := 12) (v := .ref (q 55)) (C := RX12) (T := TX12) (N := 59) hx hb hts inX12 hown hK hP 0 rfl rfl 55 (by decide) fl142 (fun _ h9 => h9) rfl dX12_give_57 ?_
          refine lv_iload hx hb dX12_give_60 (lv_at hl 0 rfl) ?_
          refine va_iald hx hb hK hP 2 0 rfl rfl (show vp_in 2 4 from by unfold vp_in; decide) dX12_give_62 ?_
          refine lv_topi (fun x_173 ex_173 => ?_)
          obtain rfl : x_173 = nI w_165 := ex_173.trans ex_163.symm
          refine lv_iadd hx hb dX12_give_63 ?_
          refine lv_topi (fun x_174 ex_174 => ?_)
          obtain rfl : x_174 = nI (256 + w_165) := ex_174.trans (nI_add 256 w_165)
          refine va_iald hx hb hK hP 1 0 rfl rfl hi_169 dX12_give_64 ?_
          refine lv_topi (fun x_175 ex_175 => ?_)
          refine lv_iadd hx hb dX12_give_65 ?_
          refine lv_topi (fun x_176 ex_176 => ?_)
          refine lv_istore_n (lv' := [(3, .int x_176), (4, .int 2), (0, .ref h0), (2, .int n_161)]) hx hb dX12_give_66 rfl hl (by decide) rfl (fun ls hl => ?_)
          refine lv_aload_n hx hb dX12_give_67 rfl (lv_at hl 2 rfl) ?_
          refine va_get (D := E.1) (ci := 12) (v := .ref (q 55)) (C := RX12) (T := TX12) (N := 59) hx hb hts inX12 hown hK hP 0 rfl rfl 55 (by decide) fl142 (fun _ h9 => h9) rfl dX12_give_68 ?_
          refine lv_iload hx hb dX12_give_71 (lv_at hl 1 rfl) ?_
          refine va_iald hx hb hK hP 2 0 rfl rfl (show vp_in 2 4 from by unfold vp_in; decide) dX12_give_73 ?_
          refine lv_topi (fun x_177 ex_177 => ?_)
          obtain rfl : x_177 = nI w_165 := ex_177.trans ex_163.symm
          refine lv_istore (lv' := [(5, .int (nI w_165)), (3, .int x_176), (4, .int 2), (0, .ref h0), (2, .int n_161)]) hx hb dX12_give_74 hl (by decide) rfl (fun ls hl => ?_)
          have hPl := hP.sub (ws' := [(h0, .inr (12, mG q i_taped i_size i_sort i_what i_at i_end i_worth i_faultKind i_faultPlace i_got i_worked (nI dl) i_isPlanned i_bestDone i_bestCost)), (q 51, .inl (E.2.1 0, 512, .inl a_least)), (q 55, .inl (E.2.1 0, 4, .inl a_sets)), (q 54, .inl (E.2.1 0, 7, .inl a_bestGiven)), (q 53, .inl (E.2.1 0, 7, .inl a_given))]) [0, 1, 2, 3, 4] rfl
          have hDl := hD.sub (ws' := [(h0, .inr (12, mG q i_taped i_size i_sort i_what i_at i_end i_worth i_faultKind i_faultPlace i_got i_worked (nI dl) i_isPlanned i_bestDone i_bestCost)), (q 51, .inl (E.2.1 0, 512, .inl a_least)), (q 55, .inl (E.2.1 0, 4, .inl a_sets)), (q 54, .inl (E.2.1 0, 7, .inl a_bestGiven)), (q 53, .inl (E.2.1 0, 7, .inl a_given))]) [0, 1, 2, 3, 4] (by decide) rfl
          refine lm_bits E h0 q i_taped i_size i_sort i_what i_at i_end i_worth i_faultKind i_faultPlace i_got i_worked i_isPlanned i_bestDone i_bestCost dl x_176 2 ([(q 51, .inl (E.2.1 0, 512, .inl a_least)), (q 55, .inl (E.2.1 0, 4, .inl a_sets)), (q 54, .inl (E.2.1 0, 7, .inl a_bestGiven)), (q 53, .inl (E.2.1 0, 7, .inl a_given))]) hx hb hml hown hts hkn hst hA  (fun n_178 H locs ls  hP hD hS hl => ?_) (w_165 + 1) w_165 n_161 _ _ _ (Nat.lt_succ_self _) hPl hDl hS (lv_sub hl [3, 4, 1, 2, 0] rfl)
          have hP : va_P E.1 vwCl [(h0, .inr (12, mG q i_taped i_size i_sort i_what i_at i_end i_worth i_faultKind i_faultPlace i_got i_worked (nI dl) i_isPlanned i_bestDone i_bestCost)), (q 51, .inl (E.2.1 0, 512, .inl a_least)), (q 55, .inl (E.2.1 0, 4, .inl a_sets)), (q 54, .inl (E.2.1 0, 7, .inl a_bestGiven)), (q 53, .inl (E.2.1 0, 7, .inl a_given))] H := hP
          have hD : va_D A [(h0, .inr (12, mG q i_taped i_size i_sort i_what i_at i_end i_worth i_faultKind i_faultPlace i_got i_worked (nI dl) i_isPlanned i_bestDone i_bestCost)), (q 51, .inl (E.2.1 0, 512, .inl a_least)), (q 55, .inl (E.2.1 0, 4, .inl a_sets)), (q 54, .inl (E.2.1 0, 7, .inl a_bestGiven)), (q 53, .inl (E.2.1 0, 7, .inl a_given))] := hD
          refine lv_iinc (v := 3) (lv' := [(4, .int 3), (0, .ref h0), (2, .int n_178), (3, .int x_176)]) hx hb dX12_give_96 hl (k := 3) rfl (by decide) (by decide) rfl (fun ls hl => ?_)
          refine lv_goto (tgt := 15) hx hb dX12_give_99 (by decide) ?_
          refine lv_iload hx hb dX12_give_15 (lv_at hl 0 rfl) ?_
          refine lv_iconst (v := 4) hx hb dX12_give_17 (by decide) ?_
          refine lv_icmp_ge (tgt := 102) hx hb dX12_give_18 (by decide) (fun c9 => absurd c9 (by decide)) (fun _ => ?_)
          refine lv_aload_n hx hb dX12_give_21 rfl (lv_at hl 1 rfl) ?_
          refine va_get (D := E.1) (ci := 12) (v := .ref (q 51)) (C := RX12) (T := TX12) (N := 59) hx hb hts inX12 hown hK hP 0 rfl rfl 51 (by decide) fl130 (fun _ h9 => h9) rfl dX12_give_22 ?_
          refine lv_sipush (v := 128) hx hb dX12_give_25 (by decide) ?_
          refine lv_iload hx hb dX12_give_28 (lv_at hl 0 rfl) ?_
          refine lv_imul hx hb dX12_give_30 ?_
          refine lv_topi (fun x_179 ex_179 => ?_)
          obtain rfl : x_179 = 384 := ex_179.trans (by decide +kernel)
          refine lv_aload_n hx hb dX12_give_31 rfl (lv_at hl 1 rfl) ?_
          refine va_get (D := E.1) (ci := 12) (v := .ref (q 55)) (C := RX12) (T := TX12) (N := 59) hx hb hts inX12 hown hK hP 0 rfl rfl 55 (by decide) fl142 (fun _ h9 => h9) rfl dX12_give_32 ?_
          refine lv_iload hx hb dX12_give_35 (lv_at hl 0 rfl) ?_
          refine va_iald hx hb hK hP 2 0 rfl rfl (show vp_in 3 4 from by unfold vp_in; decide) dX12_give_37 ?_
          refine lv_topi (fun x_180 ex_180 => ?_)
          have hv_181 : inR x_180 0 127 = true := by rw [ex_180]; exact hI_sets _ (vin_cl (show vp_in 3 4 from by unfold vp_in; decide))
          obtain ⟨w_182, hw_183, ew_184⟩ := inR_nI (n := 127) (by decide) hv_181
          subst ew_184
          refine lv_iadd hx hb dX12_give_38 ?_
          refine lv_topi (fun x_185 ex_185 => ?_)
          obtain rfl : x_185 = nI (384 + w_182) := ex_185.trans (nI_add 384 w_182)
          have hi_186 : vp_in (nI (384 + w_182)) 512 := vp_in_nI (by omega) (by decide)
          refine va_iald hx hb hK hP 1 0 rfl rfl hi_186 dX12_give_39 ?_
          refine lv_topi (fun x_187 ex_187 => ?_)
          refine lv_iconst (v := (-1)) hx hb dX12_give_40 (by decide) ?_
          refine lv_icmp_ne (tgt := 45) hx hb dX12_give_41 (by decide) (fun c_188 => ?_) (fun c_188 => ?_)
          · refine lv_iload_n hx hb dX12_give_45 rfl (lv_at hl 3 rfl) ?_
            refine lv_aload_n hx hb dX12_give_46 rfl (lv_at hl 1 rfl) ?_
            refine va_get (D := E.1) (ci := 12) (v := .ref (q 51)) (C := RX12) (T := TX12) (N := 59) hx hb hts inX12 hown hK hP 0 rfl rfl 51 (by decide) fl130 (fun _ h9 => h9) rfl dX12_give_47 ?_
            refine lv_sipush (v := 128) hx hb dX12_give_50 (by decide) ?_
            refine lv_iload hx hb dX12_give_53 (lv_at hl 0 rfl) ?_
            refine lv_imul hx hb dX12_give_55 ?_
            refine lv_topi (fun x_189 ex_189 => ?_)
            obtain rfl : x_189 = 384 := ex_189.trans (by decide +kernel)
            refine lv_aload_n hx hb dX12_give_56 rfl (lv_at hl 1 rfl) ?_
            refine va_get (D := E.1) (ci := 12) (v := .ref (q 55)) (C := RX12) (T := TX12) (N := 59) hx hb hts inX12 hown hK hP 0 rfl rfl 55 (by decide) fl142 (fun _ h9 => h9) rfl dX12_give_57 ?_
            refine lv_iload hx hb dX12_give_60 (lv_at hl 0 rfl) ?_
            refine va_iald hx hb hK hP 2 0 rfl rfl (show vp_in 3 4 from by unfold vp_in; decide) dX12_give_62 ?_
            refine lv_topi (fun x_190 ex_190 => ?_)
            obtain rfl : x_190 = nI w_182 := ex_190.trans ex_180.symm
            refine lv_iadd hx hb dX12_give_63 ?_
            refine lv_topi (fun x_191 ex_191 => ?_)
            obtain rfl : x_191 = nI (384 + w_182) := ex_191.trans (nI_add 384 w_182)
            refine va_iald hx hb hK hP 1 0 rfl rfl hi_186 dX12_give_64 ?_
            refine lv_topi (fun x_192 ex_192 => ?_)
            refine lv_iadd hx hb dX12_give_65 ?_
            refine lv_topi (fun x_193 ex_193 => ?_)
            refine lv_istore_n (lv' := [(3, .int x_193), (4, .int 3), (0, .ref h0), (2, .int n_178)]) hx hb dX12_give_66 rfl hl (by decide) rfl (fun ls hl => ?_)
            refine lv_aload_n hx hb dX12_give_67 rfl (lv_at hl 2 rfl) ?_
            refine va_get (D := E.1) (ci := 12) (v := .ref (q 55)) (C := RX12) (T := TX12) (N := 59) hx hb hts inX12 hown hK hP 0 rfl rfl 55 (by decide) fl142 (fun _ h9 => h9) rfl dX12_give_68 ?_
            refine lv_iload hx hb dX12_give_71 (lv_at hl 1 rfl) ?_
            refine va_iald hx hb hK hP 2 0 rfl rfl (show vp_in 3 4 from by unfold vp_in; decide) dX12_give_73 ?_
            refine lv_topi (fun x_194 ex_194 => ?_)
            obtain rfl : x_194 = nI w_182 := ex_194.trans ex_180.symm
            refine lv_istore (lv' := [(5, .int (nI w_182)), (3, .int x_193), (4, .int 3), (0, .ref h0), (2, .int n_178)]) hx hb dX12_give_74 hl (by decide) rfl (fun ls hl => ?_)
            have hPl := hP.sub (ws' := [(h0, .inr (12, mG q i_taped i_size i_sort i_what i_at i_end i_worth i_faultKind i_faultPlace i_got i_worked (nI dl) i_isPlanned i_bestDone i_bestCost)), (q 51, .inl (E.2.1 0, 512, .inl a_least)), (q 55, .inl (E.2.1 0, 4, .inl a_sets)), (q 54, .inl (E.2.1 0, 7, .inl a_bestGiven)), (q 53, .inl (E.2.1 0, 7, .inl a_given))]) [0, 1, 2, 3, 4] rfl
            have hDl := hD.sub (ws' := [(h0, .inr (12, mG q i_taped i_size i_sort i_what i_at i_end i_worth i_faultKind i_faultPlace i_got i_worked (nI dl) i_isPlanned i_bestDone i_bestCost)), (q 51, .inl (E.2.1 0, 512, .inl a_least)), (q 55, .inl (E.2.1 0, 4, .inl a_sets)), (q 54, .inl (E.2.1 0, 7, .inl a_bestGiven)), (q 53, .inl (E.2.1 0, 7, .inl a_given))]) [0, 1, 2, 3, 4] (by decide) rfl
            refine lm_bits E h0 q i_taped i_size i_sort i_what i_at i_end i_worth i_faultKind i_faultPlace i_got i_worked i_isPlanned i_bestDone i_bestCost dl x_193 3 ([(q 51, .inl (E.2.1 0, 512, .inl a_least)), (q 55, .inl (E.2.1 0, 4, .inl a_sets)), (q 54, .inl (E.2.1 0, 7, .inl a_bestGiven)), (q 53, .inl (E.2.1 0, 7, .inl a_given))]) hx hb hml hown hts hkn hst hA  (fun n_195 H locs ls  hP hD hS hl => ?_) (w_182 + 1) w_182 n_178 _ _ _ (Nat.lt_succ_self _) hPl hDl hS (lv_sub hl [3, 4, 1, 2, 0] rfl)
            have hP : va_P E.1 vwCl [(h0, .inr (12, mG q i_taped i_size i_sort i_what i_at i_end i_worth i_faultKind i_faultPlace i_got i_worked (nI dl) i_isPlanned i_bestDone i_bestCost)), (q 51, .inl (E.2.1 0, 512, .inl a_least)), (q 55, .inl (E.2.1 0, 4, .inl a_sets)), (q 54, .inl (E.2.1 0, 7, .inl a_bestGiven)), (q 53, .inl (E.2.1 0, 7, .inl a_given))] H := hP
            have hD : va_D A [(h0, .inr (12, mG q i_taped i_size i_sort i_what i_at i_end i_worth i_faultKind i_faultPlace i_got i_worked (nI dl) i_isPlanned i_bestDone i_bestCost)), (q 51, .inl (E.2.1 0, 512, .inl a_least)), (q 55, .inl (E.2.1 0, 4, .inl a_sets)), (q 54, .inl (E.2.1 0, 7, .inl a_bestGiven)), (q 53, .inl (E.2.1 0, 7, .inl a_given))] := hD
            refine lv_iinc (v := 4) (lv' := [(4, .int 4), (0, .ref h0), (2, .int n_195), (3, .int x_193)]) hx hb dX12_give_96 hl (k := 3) rfl (by decide) (by decide) rfl (fun ls hl => ?_)
            refine lv_goto (tgt := 15) hx hb dX12_give_99 (by decide) ?_
            refine lv_iload hx hb dX12_give_15 (lv_at hl 0 rfl) ?_
            refine lv_iconst (v := 4) hx hb dX12_give_17 (by decide) ?_
            refine lv_icmp_ge (tgt := 102) hx hb dX12_give_18 (by decide) (fun _ => ?_) (fun c9 => absurd c9 (by decide))
            refine lv_iload_n hx hb dX12_give_102 rfl (lv_at hl 2 rfl) ?_
            refine lv_aload_n hx hb dX12_give_103 rfl (lv_at hl 1 rfl) ?_
            refine va_get (D := E.1) (ci := 12) (v := .int i_bestDone) (C := RX12) (T := TX12) (N := 59) hx hb hts inX12 hown hK hP 0 rfl rfl 57 (by decide) fl300 (fun _ h9 => h9) rfl dX12_give_104 ?_
            refine lv_icmp_lt (tgt := 126) hx hb dX12_give_107 (by decide) (fun c_196 => ?_) (fun c_196 => ?_)
            · have hP9 := hP.sub (ws' := [(h0, .inr (12, mG q i_taped i_size i_sort i_what i_at i_end i_worth i_faultKind i_faultPlace i_got i_worked (nI dl) i_isPlanned i_bestDone i_bestCost)), (q 51, .inl (E.2.1 0, 512, .inl a_least)), (q 55, .inl (E.2.1 0, 4, .inl a_sets)), (q 54, .inl (E.2.1 0, 7, .inl a_bestGiven)), (q 53, .inl (E.2.1 0, 7, .inl a_given))]) [0, 1, 2, 3, 4] rfl
              have hD9 := hD.sub (ws' := [(h0, .inr (12, mG q i_taped i_size i_sort i_what i_at i_end i_worth i_faultKind i_faultPlace i_got i_worked (nI dl) i_isPlanned i_bestDone i_bestCost)), (q 51, .inl (E.2.1 0, 512, .inl a_least)), (q 55, .inl (E.2.1 0, 4, .inl a_sets)), (q 54, .inl (E.2.1 0, 7, .inl a_bestGiven)), (q 53, .inl (E.2.1 0, 7, .inl a_given))]) [0, 1, 2, 3, 4] (by decide) rfl
              exact W.vret hx hb hr (fun t ht hW => ⟨⟨(i_bestDone, i_bestCost, a_sets, a_bestGiven, a_given), rfl, trivial, hI_sets, by rw [ht]; exact hP9, hD9⟩, hS.F ht⟩) hS.2.2 dX12_give_126
            · refine lv_iload_n hx hb dX12_give_110 rfl (lv_at hl 2 rfl) ?_
              refine lv_aload_n hx hb dX12_give_111 rfl (lv_at hl 1 rfl) ?_
              refine va_get (D := E.1) (ci := 12) (v := .int i_bestDone) (C := RX12) (T := TX12) (N := 59) hx hb hts inX12 hown hK hP 0 rfl rfl 57 (by decide) fl300 (fun _ h9 => h9) rfl dX12_give_112 ?_
              refine lv_icmp_ne (tgt := 127) hx hb dX12_give_115 (by decide) (fun c_197 => ?_) (fun c_197 => ?_)
              · refine lv_aload_n hx hb dX12_give_127 rfl (lv_at hl 1 rfl) ?_
                refine lv_iload_n hx hb dX12_give_128 rfl (lv_at hl 2 rfl) ?_
                refine va_put (D := E.1) (ci := 12) (v := .int n_195) (ty := .int) (C := RX12) (T := TX12) (N := 59) hx hb hts inX12 tyX12 tyX12_ok nmX12 hown hK hP hD hS 0 rfl rfl 57 (by decide) fl300 (fun _ h9 => h9) rfl (by decide +kernel) rfl rfl (Nat.le_of_ble_eq_true rfl) dX12_give_129 (fun H locs hP hD hS => ?_)
                have hP : va_P E.1 vwCl [(h0, .inr (12, mG q i_taped i_size i_sort i_what i_at i_end i_worth i_faultKind i_faultPlace i_got i_worked (nI dl) i_isPlanned n_195 i_bestCost)), (q 51, .inl (E.2.1 0, 512, .inl a_least)), (q 55, .inl (E.2.1 0, 4, .inl a_sets)), (q 54, .inl (E.2.1 0, 7, .inl a_bestGiven)), (q 53, .inl (E.2.1 0, 7, .inl a_given))] H := hP
                have hD : va_D A [(h0, .inr (12, mG q i_taped i_size i_sort i_what i_at i_end i_worth i_faultKind i_faultPlace i_got i_worked (nI dl) i_isPlanned n_195 i_bestCost)), (q 51, .inl (E.2.1 0, 512, .inl a_least)), (q 55, .inl (E.2.1 0, 4, .inl a_sets)), (q 54, .inl (E.2.1 0, 7, .inl a_bestGiven)), (q 53, .inl (E.2.1 0, 7, .inl a_given))] := hD
                refine lv_aload_n hx hb dX12_give_132 rfl (lv_at hl 1 rfl) ?_
                refine lv_iload_n hx hb dX12_give_133 rfl (lv_at hl 3 rfl) ?_
                refine va_put (D := E.1) (ci := 12) (v := .int x_193) (ty := .int) (C := RX12) (T := TX12) (N := 59) hx hb hts inX12 tyX12 tyX12_ok nmX12 hown hK hP hD hS 0 rfl rfl 58 (by decide) fl303 (fun _ h9 => h9) rfl (by decide +kernel) rfl rfl (Nat.le_of_ble_eq_true rfl) dX12_give_134 (fun H locs hP hD hS => ?_)
                have hP : va_P E.1 vwCl [(h0, .inr (12, mG q i_taped i_size i_sort i_what i_at i_end i_worth i_faultKind i_faultPlace i_got i_worked (nI dl) i_isPlanned n_195 x_193)), (q 51, .inl (E.2.1 0, 512, .inl a_least)), (q 55, .inl (E.2.1 0, 4, .inl a_sets)), (q 54, .inl (E.2.1 0, 7, .inl a_bestGiven)), (q 53, .inl (E.2.1 0, 7, .inl a_given))] H := hP
                have hD : va_D A [(h0, .inr (12, mG q i_taped i_size i_sort i_what i_at i_end i_worth i_faultKind i_faultPlace i_got i_worked (nI dl) i_isPlanned n_195 x_193)), (q 51, .inl (E.2.1 0, 512, .inl a_least)), (q 55, .inl (E.2.1 0, 4, .inl a_sets)), (q 54, .inl (E.2.1 0, 7, .inl a_bestGiven)), (q 53, .inl (E.2.1 0, 7, .inl a_given))] := hD
                refine lv_iconst (v := 0) hx hb dX12_give_137 (by decide) ?_
                refine lv_istore (lv' := [(4, .int 0), (0, .ref h0), (2, .int n_195), (3, .int x_193)]) hx hb dX12_give_138 hl (by decide) rfl (fun ls hl => ?_)
                have hPl := hP.sub (ws' := [(h0, .inr (12, mG q i_taped i_size i_sort i_what i_at i_end i_worth i_faultKind i_faultPlace i_got i_worked (nI dl) i_isPlanned n_195 x_193)), (q 53, .inl (E.2.1 0, 7, .inl a_given)), (q 54, .inl (E.2.1 0, 7, .inl a_bestGiven)), (q 51, .inl (E.2.1 0, 512, .inl a_least)), (q 55, .inl (E.2.1 0, 4, .inl a_sets))]) [0, 4, 3, 1, 2] rfl
                have hDl := hD.sub (ws' := [(h0, .inr (12, mG q i_taped i_size i_sort i_what i_at i_end i_worth i_faultKind i_faultPlace i_got i_worked (nI dl) i_isPlanned n_195 x_193)), (q 53, .inl (E.2.1 0, 7, .inl a_given)), (q 54, .inl (E.2.1 0, 7, .inl a_bestGiven)), (q 51, .inl (E.2.1 0, 512, .inl a_least)), (q 55, .inl (E.2.1 0, 4, .inl a_sets))]) [0, 4, 3, 1, 2] (by decide) rfl
                refine lm_copy E h0 q i_taped i_size i_sort i_what i_at i_end i_worth i_faultKind i_faultPlace i_got i_worked i_isPlanned n_195 x_193 dl a_given ([(q 51, .inl (E.2.1 0, 512, .inl a_least)), (q 55, .inl (E.2.1 0, 4, .inl a_sets))]) hx hb hml hown hts hkn hst hA (by omega) (fun n_198 H locs ls  hP hD hS hl => ?_) 9 0 a_bestGiven _ _ _ (by omega) (by omega) hPl hDl hS (lv_sub hl [1, 0] rfl)
                have hP : va_P E.1 vwCl [(h0, .inr (12, mG q i_taped i_size i_sort i_what i_at i_end i_worth i_faultKind i_faultPlace i_got i_worked (nI dl) i_isPlanned n_195 x_193)), (q 53, .inl (E.2.1 0, 7, .inl a_given)), (q 54, .inl (E.2.1 0, 7, .inl n_198)), (q 51, .inl (E.2.1 0, 512, .inl a_least)), (q 55, .inl (E.2.1 0, 4, .inl a_sets))] H := hP
                have hD : va_D A [(h0, .inr (12, mG q i_taped i_size i_sort i_what i_at i_end i_worth i_faultKind i_faultPlace i_got i_worked (nI dl) i_isPlanned n_195 x_193)), (q 53, .inl (E.2.1 0, 7, .inl a_given)), (q 54, .inl (E.2.1 0, 7, .inl n_198)), (q 51, .inl (E.2.1 0, 512, .inl a_least)), (q 55, .inl (E.2.1 0, 4, .inl a_sets))] := hD
                have hP9 := hP.sub (ws' := [(h0, .inr (12, mG q i_taped i_size i_sort i_what i_at i_end i_worth i_faultKind i_faultPlace i_got i_worked (nI dl) i_isPlanned n_195 x_193)), (q 51, .inl (E.2.1 0, 512, .inl a_least)), (q 55, .inl (E.2.1 0, 4, .inl a_sets)), (q 54, .inl (E.2.1 0, 7, .inl n_198)), (q 53, .inl (E.2.1 0, 7, .inl a_given))]) [0, 3, 4, 2, 1] rfl
                have hD9 := hD.sub (ws' := [(h0, .inr (12, mG q i_taped i_size i_sort i_what i_at i_end i_worth i_faultKind i_faultPlace i_got i_worked (nI dl) i_isPlanned n_195 x_193)), (q 51, .inl (E.2.1 0, 512, .inl a_least)), (q 55, .inl (E.2.1 0, 4, .inl a_sets)), (q 54, .inl (E.2.1 0, 7, .inl n_198)), (q 53, .inl (E.2.1 0, 7, .inl a_given))]) [0, 3, 4, 2, 1] (by decide) rfl
                exact W.vret hx hb hr (fun t ht hW => ⟨⟨(n_195, x_193, a_sets, n_198, a_given), rfl, trivial, hI_sets, by rw [ht]; exact hP9, hD9⟩, hS.F ht⟩) hS.2.2 dX12_give_169
              · refine lv_iload_n hx hb dX12_give_118 rfl (lv_at hl 3 rfl) ?_
                refine lv_aload_n hx hb dX12_give_119 rfl (lv_at hl 1 rfl) ?_
                refine va_get (D := E.1) (ci := 12) (v := .int i_bestCost) (C := RX12) (T := TX12) (N := 59) hx hb hts inX12 hown hK hP 0 rfl rfl 58 (by decide) fl303 (fun _ h9 => h9) rfl dX12_give_120 ?_
                refine lv_icmp_lt (tgt := 127) hx hb dX12_give_123 (by decide) (fun c_199 => ?_) (fun c_199 => ?_)
                · refine lv_aload_n hx hb dX12_give_127 rfl (lv_at hl 1 rfl) ?_
                  refine lv_iload_n hx hb dX12_give_128 rfl (lv_at hl 2 rfl) ?_
                  refine va_put (D := E.1) (ci := 12) (v := .int n_195) (ty := .int) (C := RX12) (T := TX12) (N := 59) hx hb hts inX12 tyX12 tyX12_ok nmX12 hown hK hP hD hS 0 rfl rfl 57 (by decide) fl300 (fun _ h9 => h9) rfl (by decide +kernel) rfl rfl (Nat.le_of_ble_eq_true rfl) dX12_give_129 (fun H locs hP hD hS => ?_)
                  have hP : va_P E.1 vwCl [(h0, .inr (12, mG q i_taped i_size i_sort i_what i_at i_end i_worth i_faultKind i_faultPlace i_got i_worked (nI dl) i_isPlanned n_195 i_bestCost)), (q 51, .inl (E.2.1 0, 512, .inl a_least)), (q 55, .inl (E.2.1 0, 4, .inl a_sets)), (q 54, .inl (E.2.1 0, 7, .inl a_bestGiven)), (q 53, .inl (E.2.1 0, 7, .inl a_given))] H := hP
                  have hD : va_D A [(h0, .inr (12, mG q i_taped i_size i_sort i_what i_at i_end i_worth i_faultKind i_faultPlace i_got i_worked (nI dl) i_isPlanned n_195 i_bestCost)), (q 51, .inl (E.2.1 0, 512, .inl a_least)), (q 55, .inl (E.2.1 0, 4, .inl a_sets)), (q 54, .inl (E.2.1 0, 7, .inl a_bestGiven)), (q 53, .inl (E.2.1 0, 7, .inl a_given))] := hD
                  refine lv_aload_n hx hb dX12_give_132 rfl (lv_at hl 1 rfl) ?_
                  refine lv_iload_n hx hb dX12_give_133 rfl (lv_at hl 3 rfl) ?_
                  refine va_put (D := E.1) (ci := 12) (v := .int x_193) (ty := .int) (C := RX12) (T := TX12) (N := 59) hx hb hts inX12 tyX12 tyX12_ok nmX12 hown hK hP hD hS 0 rfl rfl 58 (by decide) fl303 (fun _ h9 => h9) rfl (by decide +kernel) rfl rfl (Nat.le_of_ble_eq_true rfl) dX12_give_134 (fun H locs hP hD hS => ?_)
                  have hP : va_P E.1 vwCl [(h0, .inr (12, mG q i_taped i_size i_sort i_what i_at i_end i_worth i_faultKind i_faultPlace i_got i_worked (nI dl) i_isPlanned n_195 x_193)), (q 51, .inl (E.2.1 0, 512, .inl a_least)), (q 55, .inl (E.2.1 0, 4, .inl a_sets)), (q 54, .inl (E.2.1 0, 7, .inl a_bestGiven)), (q 53, .inl (E.2.1 0, 7, .inl a_given))] H := hP
                  have hD : va_D A [(h0, .inr (12, mG q i_taped i_size i_sort i_what i_at i_end i_worth i_faultKind i_faultPlace i_got i_worked (nI dl) i_isPlanned n_195 x_193)), (q 51, .inl (E.2.1 0, 512, .inl a_least)), (q 55, .inl (E.2.1 0, 4, .inl a_sets)), (q 54, .inl (E.2.1 0, 7, .inl a_bestGiven)), (q 53, .inl (E.2.1 0, 7, .inl a_given))] := hD
                  refine lv_iconst (v := 0) hx hb dX12_give_137 (by decide) ?_
                  refine lv_istore (lv' := [(4, .int 0), (0, .ref h0), (2, .int n_195), (3, .int x_193)]) hx hb dX12_give_138 hl (by decide) rfl (fun ls hl => ?_)
                  have hPl := hP.sub (ws' := [(h0, .inr (12, mG q i_taped i_size i_sort i_what i_at i_end i_worth i_faultKind i_faultPlace i_got i_worked (nI dl) i_isPlanned n_195 x_193)), (q 53, .inl (E.2.1 0, 7, .inl a_given)), (q 54, .inl (E.2.1 0, 7, .inl a_bestGiven)), (q 51, .inl (E.2.1 0, 512, .inl a_least)), (q 55, .inl (E.2.1 0, 4, .inl a_sets))]) [0, 4, 3, 1, 2] rfl
                  have hDl := hD.sub (ws' := [(h0, .inr (12, mG q i_taped i_size i_sort i_what i_at i_end i_worth i_faultKind i_faultPlace i_got i_worked (nI dl) i_isPlanned n_195 x_193)), (q 53, .inl (E.2.1 0, 7, .inl a_given)), (q 54, .inl (E.2.1 0, 7, .inl a_bestGiven)), (q 51, .inl (E.2.1 0, 512, .inl a_least)), (q 55, .inl (E.2.1 0, 4, .inl a_sets))]) [0, 4, 3, 1, 2] (by decide) rfl
                  refine lm_copy E h0 q i_taped i_size i_sort i_what i_at i_end i_worth i_faultKind i_faultPlace i_got i_worked i_isPlanned n_195 x_193 dl a_given ([(q 51, .inl (E.2.1 0, 512, .inl a_least)), (q 55, .inl (E.2.1 0, 4, .inl a_sets))]) hx hb hml hown hts hkn hst hA (by omega) (fun n_200 H locs ls  hP hD hS hl => ?_) 9 0 a_bestGiven _ _ _ (by omega) (by omega) hPl hDl hS (lv_sub hl [1, 0] rfl)
                  have hP : va_P E.1 vwCl [(h0, .inr (12, mG q i_taped i_size i_sort i_what i_at i_end i_worth i_faultKind i_faultPlace i_got i_worked (nI dl) i_isPlanned n_195 x_193)), (q 53, .inl (E.2.1 0, 7, .inl a_given)), (q 54, .inl (E.2.1 0, 7, .inl n_200)), (q 51, .inl (E.2.1 0, 512, .inl a_least)), (q 55, .inl (E.2.1 0, 4, .inl a_sets))] H := hP
                  have hD : va_D A [(h0, .inr (12, mG q i_taped i_size i_sort i_what i_at i_end i_worth i_faultKind i_faultPlace i_got i_worked (nI dl) i_isPlanned n_195 x_193)), (q 53, .inl (E.2.1 0, 7, .inl a_given)), (q 54, .inl (E.2.1 0, 7, .inl n_200)), (q 51, .inl (E.2.1 0, 512, .inl a_least)), (q 55, .inl (E.2.1 0, 4, .inl a_sets))] := hD
                  have hP9 := hP.sub (ws' := [(h0, .inr (12, mG q i_taped i_size i_sort i_what i_at i_end i_worth i_faultKind i_faultPlace i_got i_worked (nI dl) i_isPlanned n_195 x_193)), (q 51, .inl (E.2.1 0, 512, .inl a_least)), (q 55, .inl (E.2.1 0, 4, .inl a_sets)), (q 54, .inl (E.2.1 0, 7, .inl n_200)), (q 53, .inl (E.2.1 0, 7, .inl a_given))]) [0, 3, 4, 2, 1] rfl
                  have hD9 := hD.sub (ws' := [(h0, .inr (12, mG q i_taped i_size i_sort i_what i_at i_end i_worth i_faultKind i_faultPlace i_got i_worked (nI dl) i_isPlanned n_195 x_193)), (q 51, .inl (E.2.1 0, 512, .inl a_least)), (q 55, .inl (E.2.1 0, 4, .inl a_sets)), (q 54, .inl (E.2.1 0, 7, .inl n_200)), (q 53, .inl (E.2.1 0, 7, .inl a_given))]) [0, 3, 4, 2, 1] (by decide) rfl
                  exact W.vret hx hb hr (fun t ht hW => ⟨⟨(n_195, x_193, a_sets, n_200, a_given), rfl, trivial, hI_sets, by rw [ht]; exact hP9, hD9⟩, hS.F ht⟩) hS.2.2 dX12_give_169
                · have hP9 := hP.sub (ws' := [(h0, .inr (12, mG q i_taped i_size i_sort i_what i_at i_end i_worth i_faultKind i_faultPlace i_got i_worked (nI dl) i_isPlanned i_bestDone i_bestCost)), (q 51, .inl (E.2.1 0, 512, .inl a_least)), (q 55, .inl (E.2.1 0, 4, .inl a_sets)), (q 54, .inl (E.2.1 0, 7, .inl a_bestGiven)), (q 53, .inl (E.2.1 0, 7, .inl a_given))]) [0, 1, 2, 3, 4] rfl
                  have hD9 := hD.sub (ws' := [(h0, .inr (12, mG q i_taped i_size i_sort i_what i_at i_end i_worth i_faultKind i_faultPlace i_got i_worked (nI dl) i_isPlanned i_bestDone i_bestCost)), (q 51, .inl (E.2.1 0, 512, .inl a_least)), (q 55, .inl (E.2.1 0, 4, .inl a_sets)), (q 54, .inl (E.2.1 0, 7, .inl a_bestGiven)), (q 53, .inl (E.2.1 0, 7, .inl a_given))]) [0, 1, 2, 3, 4] (by decide) rfl
                  exact W.vret hx hb hr (fun t ht hW => ⟨⟨(i_bestDone, i_bestCost, a_sets, a_bestGiven, a_given), rfl, trivial, hI_sets, by rw [ht]; exact hP9, hD9⟩, hS.F ht⟩) hS.2.2 dX12_give_126
          · have hP9 := hP.sub (ws' := [(h0, .inr (12, mG q i_taped i_size i_sort i_what i_at i_end i_worth i_faultKind i_faultPlace i_got i_worked (nI dl) i_isPlanned i_bestDone i_bestCost)), (q 51, .inl (E.2.1 0, 512, .inl a_least)), (q 55, .inl (E.2.1 0, 4, .inl a_sets)), (q 54, .inl (E.2.1 0, 7, .inl a_bestGiven)), (q 53, .inl (E.2.1 0, 7, .inl a_given))]) [0, 1, 2, 3, 4] rfl
            have hD9 := hD.sub (ws' := [(h0, .inr (12, mG q i_taped i_size i_sort i_what i_at i_end i_worth i_faultKind i_faultPlace i_got i_worked (nI dl) i_isPlanned i_bestDone i_bestCost)), (q 51, .inl (E.2.1 0, 512, .inl a_least)), (q 55, .inl (E.2.1 0, 4, .inl a_sets)), (q 54, .inl (E.2.1 0, 7, .inl a_bestGiven)), (q 53, .inl (E.2.1 0, 7, .inl a_given))]) [0, 1, 2, 3, 4] (by decide) rfl
            exact W.vret hx hb hr (fun t ht hW => ⟨⟨(i_bestDone, i_bestCost, a_sets, a_bestGiven, a_given), rfl, trivial, hI_sets, by rw [ht]; exact hP9, hD9⟩, hS.F ht⟩) hS.2.2 dX12_give_44
        · have hP9 := hP.sub (ws' := [(h0, .inr (12, mG q i_taped i_size i_sort i_what i_at i_end i_worth i_faultKind i_faultPlace i_got i_worked (nI dl) i_isPlanned i_bestDone i_bestCost)), (q 51, .inl (E.2.1 0, 512, .inl a_least)), (q 55, .inl (E.2.1 0, 4, .inl a_sets)), (q 54, .inl (E.2.1 0, 7, .inl a_bestGiven)), (q 53, .inl (E.2.1 0, 7, .inl a_given))]) [0, 1, 2, 3, 4] rfl
          have hD9 := hD.sub (ws' := [(h0, .inr (12, mG q i_taped i_size i_sort i_what i_at i_end i_worth i_faultKind i_faultPlace i_got i_worked (nI dl) i_isPlanned i_bestDone i_bestCost)), (q 51, .inl (E.2.1 0, 512, .inl a_least)), (q 55, .inl (E.2.1 0, 4, .inl a_sets)), (q 54, .inl (E.2.1 0, 7, .inl a_bestGiven)), (q 53, .inl (E.2.1 0, 7, .inl a_given))]) [0, 1, 2, 3, 4] (by decide) rfl
          exact W.vret hx hb hr (fun t ht hW => ⟨⟨(i_bestDone, i_bestCost, a_sets, a_bestGiven, a_given), rfl, trivial, hI_sets, by rw [ht]; exact hP9, hD9⟩, hS.F ht⟩) hS.2.2 dX12_give_44
      · have hP9 := hP.sub (ws' := [(h0, .inr (12, mG q i_taped i_size i_sort i_what i_at i_end i_worth i_faultKind i_faultPlace i_got i_worked (nI dl) i_isPlanned i_bestDone i_bestCost)), (q 51, .inl (E.2.1 0, 512, .inl a_least)), (q 55, .inl (E.2.1 0, 4, .inl a_sets)), (q 54, .inl (E.2.1 0, 7, .inl a_bestGiven)), (q 53, .inl (E.2.1 0, 7, .inl a_given))]) [0, 1, 2, 3, 4] rfl
        have hD9 := hD.sub (ws' := [(h0, .inr (12, mG q i_taped i_size i_sort i_what i_at i_end i_worth i_faultKind i_faultPlace i_got i_worked (nI dl) i_isPlanned i_bestDone i_bestCost)), (q 51, .inl (E.2.1 0, 512, .inl a_least)), (q 55, .inl (E.2.1 0, 4, .inl a_sets)), (q 54, .inl (E.2.1 0, 7, .inl a_bestGiven)), (q 53, .inl (E.2.1 0, 7, .inl a_given))]) [0, 1, 2, 3, 4] (by decide) rfl
        exact W.vret hx hb hr (fun t ht hW => ⟨⟨(i_bestDone, i_bestCost, a_sets, a_bestGiven, a_given), rfl, trivial, hI_sets, by rw [ht]; exact hP9, hD9⟩, hS.F ht⟩) hS.2.2 dX12_give_44
    · have hP9 := hP.sub (ws' := [(h0, .inr (12, mG q i_taped i_size i_sort i_what i_at i_end i_worth i_faultKind i_faultPlace i_got i_worked (nI dl) i_isPlanned i_bestDone i_bestCost)), (q 51, .inl (E.2.1 0, 512, .inl a_least)), (q 55, .inl (E.2.1 0, 4, .inl a_sets)), (q 54, .inl (E.2.1 0, 7, .inl a_bestGiven)), (q 53, .inl (E.2.1 0, 7, .inl a_given))]) [0, 1, 2, 3, 4] rfl
      have hD9 := hD.sub (ws' := [(h0, .inr (12, mG q i_taped i_size i_sort i_what i_at i_end i_worth i_faultKind i_faultPlace i_got i_worked (nI dl) i_isPlanned i_bestDone i_bestCost)), (q 51, .inl (E.2.1 0, 512, .inl a_least)), (q 55, .inl (E.2.1 0, 4, .inl a_sets)), (q 54, .inl (E.2.1 0, 7, .inl a_bestGiven)), (q 53, .inl (E.2.1 0, 7, .inl a_given))]) [0, 1, 2, 3, 4] (by decide) rfl
      exact W.vret hx hb hr (fun t ht hW => ⟨⟨(i_bestDone, i_bestCost, a_sets, a_bestGiven, a_given), rfl, trivial, hI_sets, by rw [ht]; exact hP9, hD9⟩, hS.F ht⟩) hS.2.2 dX12_give_44
set_option maxHeartbeats 4000000 in
set_option maxRecDepth 100000 in
theorem c_X12_give5 (l : Launch) (E : vE) (h0 : Nat) (q : Nat → Nat) (i_taped : Int32) (i_size : Int32) (i_sort : Int32) (i_what : Int32) (i_at : Int32) (i_end : Int32) (i_worth : Int32) (i_faultKind : Int32) (i_faultPlace : Int32) (i_got : Int32) (i_worked : Int32) (i_isPlanned : Int32) (i_bestDone : Int32) (i_bestCost : Int32) (dl : Nat) (a_least : Nat → Int32) (a_sets : Nat → Int32) (a_bestGiven : Nat → Int32) (a_given : Nat → Int32) (sz : Nat) (hdl : dl ≤ 7) (hd : 5 ≤ dl) (hI_sets : ∀ k : Nat, k < 4 → inR (a_sets k) 0 127 = true) : Met l yX12_give wsX12_give ({ frames := 2, cells := 0, slots := 0, locals := 50 }) (pcW E [.ref h0, .int 5] sz [(h0, .inr (12, mG q i_taped i_size i_sort i_what i_at i_end i_worth i_faultKind i_faultPlace i_got i_worked (nI dl) i_isPlanned i_bestDone i_bestCost)), (q 51, .inl (E.2.1 0, 512, .inl a_least)), (q 55, .inl (E.2.1 0, 4, .inl a_sets)), (q 54, .inl (E.2.1 0, 7, .inl a_bestGiven)), (q 53, .inl (E.2.1 0, 7, .inl a_given))]) (va_Qv (fun (u : Int32 × Int32 × (Nat → Int32) × (Nat → Int32) × (Nat → Int32)) => match u with | (bd2, bc2, b_sets, b_bestGiven, b_given) => True) (fun (u : Int32 × Int32 × (Nat → Int32) × (Nat → Int32) × (Nat → Int32)) (t : State) => match u with | (bd2, bc2, b_sets, b_bestGiven, b_given) => (∀ k : Nat, k < 4 → inR (b_sets k) 0 127 = true) ∧ wB E (va_A [(h0, .inr (12, mG q i_taped i_size i_sort i_what i_at i_end i_worth i_faultKind i_faultPlace i_got i_worked (nI dl) i_isPlanned i_bestDone i_bestCost)), (q 51, .inl (E.2.1 0, 512, .inl a_least)), (q 55, .inl (E.2.1 0, 4, .inl a_sets)), (q 54, .inl (E.2.1 0, 7, .inl a_bestGiven)), (q 53, .inl (E.2.1 0, 7, .inl a_given))] sz) [(h0, .inr (12, mG q i_taped i_size i_sort i_what i_at i_end i_worth i_faultKind i_faultPlace i_got i_worked (nI dl) i_isPlanned bd2 bc2)), (q 51, .inl (E.2.1 0, 512, .inl a_least)), (q 55, .inl (E.2.1 0, 4, .inl b_sets)), (q 54, .inl (E.2.1 0, 7, .inl b_bestGiven)), (q 53, .inl (E.2.1 0, 7, .inl b_given))] t) (va_A [(h0, .inr (12, mG q i_taped i_size i_sort i_what i_at i_end i_worth i_faultKind i_faultPlace i_got i_worked (nI dl) i_isPlanned i_bestDone i_bestCost)), (q 51, .inl (E.2.1 0, 512, .inl a_least)), (q 55, .inl (E.2.1 0, 4, .inl a_sets)), (q 54, .inl (E.2.1 0, 7, .inl a_bestGiven)), (q 53, .inl (E.2.1 0, 7, .inl a_given))] sz)) 0 0 (va_A [(h0, .inr (12, mG q i_taped i_size i_sort i_what i_at i_end i_worth i_faultKind i_faultPlace i_got i_worked (nI dl) i_isPlanned i_bestDone i_bestCost)), (q 51, .inl (E.2.1 0, 512, .inl a_least)), (q 55, .inl (E.2.1 0, 4, .inl a_sets)), (q 54, .inl (E.2.1 0, 7, .inl a_bestGiven)), (q 53, .inl (E.2.1 0, 7, .inl a_given))] sz) := by
  refine Met.ofW (cc := cX12_give) (maxL := 6) (ret := none) (by decide) rfl ?_
  intro p e s m args below meth c s₁ B hml hv
  obtain ⟨rfl, hsz, hP, hkn, hD0, hst⟩ := hv
  have hx := B.exec
  have hb := B.bytes
  have hr := B.returns
  have hts := atoms_spec (ws := wsX12_give) B.pre
  have hown : s.vm.findClass RX12 = some m.cls := findClass_of_methodNamed B.named
  have hlocks := B.notSynchronized
  subst hsz
  have hD := hD0.self (sz := s.heap.size)
  have hK := hkn.1
  have hAO := hkn.2.2.1
  generalize hAe : va_A [(h0, .inr (12, mG q i_taped i_size i_sort i_what i_at i_end i_worth i_faultKind i_faultPlace i_got i_worked (nI dl) i_isPlanned i_bestDone i_bestCost)), (q 51, .inl (E.2.1 0, 512, .inl a_least)), (q 55, .inl (E.2.1 0, 4, .inl a_sets)), (q 54, .inl (E.2.1 0, 7, .inl a_bestGiven)), (q 53, .inl (E.2.1 0, 7, .inl a_given))] s.heap.size = A at hD hst ⊢
  have hA : ∀ q : Nat, s.heap.size ≤ q → A q := fun q h => by rw [← hAe]; exact Or.inr h
  have hS : va_S A s.heap s.heap [] := va_S.rf
  have hP : va_P E.1 vwCl [(h0, .inr (12, mG q i_taped i_size i_sort i_what i_at i_end i_worth i_faultKind i_faultPlace i_got i_worked (nI dl) i_isPlanned i_bestDone i_bestCost)), (q 51, .inl (E.2.1 0, 512, .inl a_least)), (q 55, .inl (E.2.1 0, 4, .inl a_sets)), (q 54, .inl (E.2.1 0, 7, .inl a_bestGiven)), (q 53, .inl (E.2.1 0, 7, .inl a_given))] s.heap := hP
  have hl := lv_entry ([.ref h0, .int 5]) (n := 6) (Nat.le_of_ble_eq_true rfl)
  rw [lg_entry_eq]
  generalize (lg_sl ([.ref h0, .int 5]) ++ List.replicate (6 - (lg_sl ([.ref h0, .int 5])).length) Slot.unset).toArray = ls at hl ⊢
  have hl : lv_has ls 6 [(0, .ref h0), (1, .int 5)] := hl
  have fl130 := hts (.fieldLink RX12 130 "BoatsHomeModel" "least" "[I") (by first | exact List.mem_of_getElem? (i := 2) rfl | decide +kernel)
  have fl136 := hts (.fieldLink RX12 136 "BoatsHomeModel" "given" "[I") (by first | exact List.mem_of_getElem? (i := 7) rfl | decide +kernel)
  have fl139 := hts (.fieldLink RX12 139 "BoatsHomeModel" "bestGiven" "[I") (by first | exact List.mem_of_getElem? (i := 6) rfl | decide +kernel)
  have fl142 := hts (.fieldLink RX12 142 "BoatsHomeModel" "sets" "[I") (by first | exact List.mem_of_getElem? (i := 3) rfl | decide +kernel)
  have fl289 := hts (.fieldLink RX12 289 "BoatsHomeModel" "deliveries" "I") (by first | exact List.mem_of_getElem? (i := 1) rfl | decide +kernel)
  have fl300 := hts (.fieldLink RX12 300 "BoatsHomeModel" "bestDone" "I") (by first | exact List.mem_of_getElem? (i := 4) rfl | decide +kernel)
  have fl303 := hts (.fieldLink RX12 303 "BoatsHomeModel" "bestCost" "I") (by first | exact List.mem_of_getElem? (i := 5) rfl | decide +kernel)
  have inX12 : ∀ w ∈ u_ws RX12 TX12 59, w ∈ wsX12_give := by first | exact fun w h9 => (List.mem_cons_of_mem _ (List.mem_append_right _ h9)) | decide +kernel
  refine lv_iload_n hx hb dX12_give_0 rfl (lv_at hl 1 rfl) ?_
  refine lv_aload_n hx hb dX12_give_1 rfl (lv_at hl 0 rfl) ?_
  refine va_get (D := E.1) (ci := 12) (v := .int (nI dl)) (C := RX12) (T := TX12) (N := 59) hx hb hts inX12 hown hK hP 0 rfl rfl 41 (by decide) fl289 (fun _ h9 => h9) rfl dX12_give_2 ?_
  refine lv_icmp_ne (tgt := 170) hx hb dX12_give_5 (by decide) (fun c_1 => ?_) (fun c_1 => ?_)
  · have hd2 : 5 + 1 ≤ dl := by
      rcases Nat.lt_or_ge 5 dl with q | q
      · exact q
      · exact absurd (by rw [show dl = 5 by omega]; rfl) c_1
    refine lv_iconst (v := 0) hx hb dX12_give_170 (by decide) ?_
    refine lv_istore_n (lv' := [(2, .int 0), (0, .ref h0), (1, .int 5)]) hx hb dX12_give_171 rfl hl (by decide) rfl (fun ls hl => ?_)
    refine lv_iload_n hx hb dX12_give_172 rfl (lv_at hl 0 rfl) ?_
    refine lv_iconst (v := 4) hx hb dX12_give_173 (by decide) ?_
    refine lv_icmp_ge (tgt := 223) hx hb dX12_give_174 (by decide) (fun c9 => absurd c9 (by decide)) (fun _ => ?_)
    refine lv_aload_n hx hb dX12_give_177 rfl (lv_at hl 1 rfl) ?_
    refine va_get (D := E.1) (ci := 12) (v := .ref (q 53)) (C := RX12) (T := TX12) (N := 59) hx hb hts inX12 hown hK hP 0 rfl rfl 53 (by decide) fl136 (fun _ h9 => h9) rfl dX12_give_178 ?_
    refine lv_iload_n hx hb dX12_give_181 rfl (lv_at hl 2 rfl) ?_
    refine lv_iload_n hx hb dX12_give_182 rfl (lv_at hl 0 rfl) ?_
    refine va_iast hx hb hK hP hD hS 4 0 rfl rfl (show vp_in 5 7 from by unfold vp_in; decide) dX12_give_183 (fun H locs hP hD hS => ?_)
    have hP : va_P E.1 vwCl [(h0, .inr (12, mG q i_taped i_size i_sort i_what i_at i_end i_worth i_faultKind i_faultPlace i_got i_worked (nI dl) i_isPlanned i_bestDone i_bestCost)), (q 51, .inl (E.2.1 0, 512, .inl a_least)), (q 55, .inl (E.2.1 0, 4, .inl a_sets)), (q 54, .inl (E.2.1 0, 7, .inl a_bestGiven)), (q 53, .inl (E.2.1 0, 7, .inl (upd a_given (Int32.toNatClampNeg 5) 0)))] H := hP
    have hD : va_D A [(h0, .inr (12, mG q i_taped i_size i_sort i_what i_at i_end i_worth i_faultKind i_faultPlace i_got i_worked (nI dl) i_isPlanned i_bestDone i_bestCost)), (q 51, .inl (E.2.1 0, 512, .inl a_least)), (q 55, .inl (E.2.1 0, 4, .inl a_sets)), (q 54, .inl (E.2.1 0, 7, .inl a_bestGiven)), (q 53, .inl (E.2.1 0, 7, .inl (upd a_given (Int32.toNatClampNeg 5) 0)))] := hD
    obtain ⟨f_2, ef_2⟩ : ∃ g : Nat → Int32, g = upd a_given (Int32.toNatClampNeg 5) 0 := ⟨_, rfl⟩
    rw [← ef_2] at hP hD
    refine lv_aload_n hx hb dX12_give_184 rfl (lv_at hl 1 rfl) ?_
    refine va_get (D := E.1) (ci := 12) (v := .ref (q 55)) (C := RX12) (T := TX12) (N := 59) hx hb hts inX12 hown hK hP 0 rfl rfl 55 (by decide) fl142 (fun _ h9 => h9) rfl dX12_give_185 ?_
    refine lv_iload_n hx hb dX12_give_188 rfl (lv_at hl 0 rfl) ?_
    refine lv_dup2_11 hx hb dX12_give_189 rfl rfl ?_
    refine va_iald hx hb hK hP 2 0 rfl rfl (show vp_in 0 4 from by unfold vp_in; decide) dX12_give_190 ?_
    refine lv_topi (fun x_3 ex_3 => ?_)
    have hv_4 : inR x_3 0 127 = true := by rw [ex_3]; exact hI_sets _ (vin_cl (show vp_in 0 4 from by unfold vp_in; decide))
    obtain ⟨w_5, hw_6, ew_7⟩ := inR_nI (n := 127) (by decide) hv_4
    subst ew_7
    refine lv_iconst (v := 1) hx hb dX12_give_191 (by decide) ?_
    refine lv_iload_n hx hb dX12_give_192 rfl (lv_at hl 2 rfl) ?_
    refine lv_ishl hx hb dX12_give_193 ?_
    refine lv_topi (fun x_8 ex_8 => ?_)
    obtain rfl : x_8 = 32 := ex_8.trans (by decide +kernel)
    refine lv_ior hx hb dX12_give_194 ?_
    refine lv_topi (fun x_9 ex_9 => ?_)
    refine va_iast hx hb hK hP hD hS 2 0 rfl rfl (show vp_in 0 4 from by unfold vp_in; decide) dX12_give_195 (fun H locs hP hD hS => ?_)
    have hP : va_P E.1 vwCl [(h0, .inr (12, mG q i_taped i_size i_sort i_what i_at i_end i_worth i_faultKind i_faultPlace i_got i_worked (nI dl) i_isPlanned i_bestDone i_bestCost)), (q 51, .inl (E.2.1 0, 512, .inl a_least)), (q 55, .inl (E.2.1 0, 4, .inl (upd a_sets (Int32.toNatClampNeg 0) x_9))), (q 54, .inl (E.2.1 0, 7, .inl a_bestGiven)), (q 53, .inl (E.2.1 0, 7, .inl f_2))] H := hP
    have hD : va_D A [(h0, .inr (12, mG q i_taped i_size i_sort i_what i_at i_end i_worth i_faultKind i_faultPlace i_got i_worked (nI dl) i_isPlanned i_bestDone i_bestCost)), (q 51, .inl (E.2.1 0, 512, .inl a_least)), (q 55, .inl (E.2.1 0, 4, .inl (upd a_sets (Int32.toNatClampNeg 0) x_9))), (q 54, .inl (E.2.1 0, 7, .inl a_bestGiven)), (q 53, .inl (E.2.1 0, 7, .inl f_2))] := hD
    obtain ⟨f_10, ef_10⟩ : ∃ g : Nat → Int32, g = upd a_sets (Int32.toNatClampNeg 0) x_9 := ⟨_, rfl⟩
    rw [← ef_10] at hP hD
    have hI_11 : ∀ k : Nat, k < 4 → inR (f_10 k) 0 127 = true := by rw [ef_10]; exact all_upd (P := fun z => inR z 0 127 = true) hI_sets (by rw [ex_9]; exact or_lt7 _ (by omega) 5 (by decide))
    refine lv_aload_n hx hb dX12_give_196 rfl (lv_at hl 1 rfl) ?_
    refine lv_iload_n hx hb dX12_give_197 rfl (lv_at hl 2 rfl) ?_
    refine lv_iconst (v := 1) hx hb dX12_give_198 (by decide) ?_
    refine lv_iadd hx hb dX12_give_199 ?_
    refine lv_topi (fun x_12 ex_12 => ?_)
    obtain rfl : x_12 = 6 := ex_12.trans (by decide +kernel)
    have hPc := hP.sub (ws' := [(h0, .inr (12, mG q i_taped i_size i_sort i_what i_at i_end i_worth i_faultKind i_faultPlace i_got i_worked (nI dl) i_isPlanned i_bestDone i_bestCost)), (q 51, .inl (E.2.1 0, 512, .inl a_least)), (q 55, .inl (E.2.1 0, 4, .inl f_10)), (q 54, .inl (E.2.1 0, 7, .inl a_bestGiven)), (q 53, .inl (E.2.1 0, 7, .inl f_2))]) [0, 1, 2, 3, 4] rfl
    have hDc := hD.sub (ws' := [(h0, .inr (12, mG q i_taped i_size i_sort i_what i_at i_end i_worth i_faultKind i_faultPlace i_got i_worked (nI dl) i_isPlanned i_bestDone i_bestCost)), (q 51, .inl (E.2.1 0, 512, .inl a_least)), (q 55, .inl (E.2.1 0, 4, .inl f_10)), (q 54, .inl (E.2.1 0, 7, .inl a_bestGiven)), (q 53, .inl (E.2.1 0, 7, .inl f_2))]) [0, 1, 2, 3, 4] (by decide) rfl
    have hFc := va_free (wc := [(h0, .inr (12, mG q i_taped i_size i_sort i_what i_at i_end i_worth i_faultKind i_faultPlace i_got i_worked (nI dl) i_isPlanned i_bestDone i_bestCost)), (q 51, .inl (E.2.1 0, 512, .inl a_least)), (q 55, .inl (E.2.1 0, 4, .inl f_10)), (q 54, .inl (E.2.1 0, 7, .inl a_bestGiven)), (q 53, .inl (E.2.1 0, 7, .inl f_2))]) hD hS hA [0, 1, 2, 3, 4] rfl
    refine va_callv (va_runV (As := [.int 6]) (rest := []) ⟨hx, hb, hml, hown, hts⟩ (c_X12_give6 l E h0 q i_taped i_size i_sort i_what i_at i_end i_worth i_faultKind i_faultPlace i_got i_worked i_isPlanned i_bestDone i_bestCost dl a_least f_10 a_bestGiven f_2 H.size hdl hd2 hI_11) (cwV 1 hts gX12_give_X12_give rfl rfl rfl hdV_X12_give ⟨Nat.le_of_ble_eq_true rfl, Nat.le_of_ble_eq_true rfl⟩) ⟨pcW_blind, va_recv hK hPc (ci := 12) (q0 := 0) rfl rfl, (pcW_pre hPc hkn hDc hst hS hFc)⟩ rfl rfl hl.1 rfl (lv_room (Nat.le_of_ble_eq_true rfl)) dX12_give_200 ⟨Nat.le_of_ble_eq_true rfl, Nat.le_of_ble_eq_true rfl⟩) hS (fun q _ h => hFc q h) hFc (fun u t H1 locs ht hvm hw_14 hB hz1 hk1 hS => ?_)
    obtain ⟨u_15, u_16, u_17, u_18, u_19⟩ := u
    obtain ⟨hf_20, hP1, hD1⟩ := hB
    rw [ht] at hP1
    try dsimp only at hw_14
    obtain ⟨hP, hD⟩ := va_join (wr := []) (w1 := [(h0, .inr (12, mG q i_taped i_size i_sort i_what i_at i_end i_worth i_faultKind i_faultPlace i_got i_worked (nI dl) i_isPlanned u_15 u_16)), (q 51, .inl (E.2.1 0, 512, .inl a_least)), (q 55, .inl (E.2.1 0, 4, .inl u_17)), (q 54, .inl (E.2.1 0, 7, .inl u_18)), (q 53, .inl (E.2.1 0, 7, .inl u_19))]) hP hD [0, 1, 2, 3, 4] [] rfl rfl (by decide) (by decide) hk1 hFc hP1 hD1
    generalize H1 = H at hP hS ⊢
    have hP : va_P E.1 vwCl [(h0, .inr (12, mG q i_taped i_size i_sort i_what i_at i_end i_worth i_faultKind i_faultPlace i_got i_worked (nI dl) i_isPlanned u_15 u_16)), (q 51, .inl (E.2.1 0, 512, .inl a_least)), (q 55, .inl (E.2.1 0, 4, .inl u_17)), (q 54, .inl (E.2.1 0, 7, .inl u_18)), (q 53, .inl (E.2.1 0, 7, .inl u_19))] H := hP
    have hD : va_D A [(h0, .inr (12, mG q i_taped i_size i_sort i_what i_at i_end i_worth i_faultKind i_faultPlace i_got i_worked (nI dl) i_isPlanned u_15 u_16)), (q 51, .inl (E.2.1 0, 512, .inl a_least)), (q 55, .inl (E.2.1 0, 4, .inl u_17)), (q 54, .inl (E.2.1 0, 7, .inl u_18)), (q 53, .inl (E.2.1 0, 7, .inl u_19))] := hD
    refine lv_aload_n hx hb dX12_give_203 rfl (lv_at hl 1 rfl) ?_
    refine va_get (D := E.1) (ci := 12) (v := .ref (q 55)) (C := RX12) (T := TX12) (N := 59) hx hb hts inX12 hown hK hP 0 rfl rfl 55 (by decide) fl142 (fun _ h9 => h9) rfl dX12_give_204 ?_
    refine lv_iload_n hx hb dX12_give_207 rfl (lv_at hl 0 rfl) ?_
    refine lv_dup2_11 hx hb dX12_give_208 rfl rfl ?_
    refine va_iald hx hb hK hP 2 0 rfl rfl (show vp_in 0 4 from by unfold vp_in; decide) dX12_give_209 ?_
    refine lv_topi (fun x_21 ex_21 => ?_)
    have hv_22 : inR x_21 0 127 = true := by rw [ex_21]; exact hf_20 _ (vin_cl (show vp_in 0 4 from by unfold vp_in; decide))
    obtain ⟨w_23, hw_24, ew_25⟩ := inR_nI (n := 127) (by decide) hv_22
    subst ew_25
    refine lv_iconst (v := 1) hx hb dX12_give_210 (by decide) ?_
    refine lv_iload_n hx hb dX12_give_211 rfl (lv_at hl 2 rfl) ?_
    refine lv_ishl hx hb dX12_give_212 ?_
    refine lv_topi (fun x_26 ex_26 => ?_)
    obtain rfl : x_26 = 32 := ex_26.trans (by decide +kernel)
    refine lv_iconst (v := (-1)) hx hb dX12_give_213 (by decide) ?_
    refine lv_ixor hx hb dX12_give_214 ?_
    refine lv_topi (fun x_27 ex_27 => ?_)
    obtain rfl : x_27 = (-33) := ex_27.trans (by decide +kernel)
    refine lv_iand hx hb dX12_give_215 ?_
    refine lv_topi (fun x_28 ex_28 => ?_)
    refine va_iast hx hb hK hP hD hS 2 0 rfl rfl (show vp_in 0 4 from by unfold vp_in; decide) dX12_give_216 (fun H locs hP hD hS => ?_)
    have hP : va_P E.1 vwCl [(h0, .inr (12, mG q i_taped i_size i_sort i_what i_at i_end i_worth i_faultKind i_faultPlace i_got i_worked (nI dl) i_isPlanned u_15 u_16)), (q 51, .inl (E.2.1 0, 512, .inl a_least)), (q 55, .inl (E.2.1 0, 4, .inl (upd u_17 (Int32.toNatClampNeg 0) x_28))), (q 54, .inl (E.2.1 0, 7, .inl u_18)), (q 53, .inl (E.2.1 0, 7, .inl u_19))] H := hP
    have hD : va_D A [(h0, .inr (12, mG q i_taped i_size i_sort i_what i_at i_end i_worth i_faultKind i_faultPlace i_got i_worked (nI dl) i_isPlanned u_15 u_16)), (q 51, .inl (E.2.1 0, 512, .inl a_least)), (q 55, .inl (E.2.1 0, 4, .inl (upd u_17 (Int32.toNatClampNeg 0) x_28))), (q 54, .inl (E.2.1 0, 7, .inl u_18)), (q 53, .inl (E.2.1 0, 7, .inl u_19))] := hD
    obtain ⟨f_29, ef_29⟩ : ∃ g : Nat → Int32, g = upd u_17 (Int32.toNatClampNeg 0) x_28 := ⟨_, rfl⟩
    rw [← ef_29] at hP hD
    have hI_30 : ∀ k : Nat, k < 4 → inR (f_29 k) 0 127 = true := by rw [ef_29]; exact all_upd (P := fun z => inR z 0 127 = true) hf_20 (by rw [ex_28]; exact and_lt7 _ (by omega) 5 (by decide))
    refine lv_iinc (v := 1) (lv' := [(2, .int 1), (0, .ref h0), (1, .int 5)]) hx hb dX12_give_217 hl (k := 0) rfl (by decide) (by decide) rfl (fun ls hl => ?_)
    refine lv_goto (tgt := 172) hx hb dX12_give_220 (by decide) ?_
    refine lv_iload_n hx hb dX12_give_172 rfl (lv_at hl 0 rfl) ?_
    refine lv_iconst (v := 4) hx hb dX12_give_173 (by decide) ?_
    refine lv_icmp_ge (tgt := 223) hx hb dX12_give_174 (by decide) (fun c9 => absurd c9 (by decide)) (fun _ => ?_)
    refine lv_aload_n hx hb dX12_give_177 rfl (lv_at hl 1 rfl) ?_
    refine va_get (D := E.1) (ci := 12) (v := .ref (q 53)) (C := RX12) (T := TX12) (N := 59) hx hb hts inX12 hown hK hP 0 rfl rfl 53 (by decide) fl136 (fun _ h9 => h9) rfl dX12_give_178 ?_
    refine lv_iload_n hx hb dX12_give_181 rfl (lv_at hl 2 rfl) ?_
    refine lv_iload_n hx hb dX12_give_182 rfl (lv_at hl 0 rfl) ?_
    refine va_iast hx hb hK hP hD hS 4 0 rfl rfl (show vp_in 5 7 from by unfold vp_in; decide) dX12_give_183 (fun H locs hP hD hS => ?_)
    have hP : va_P E.1 vwCl [(h0, .inr (12, mG q i_taped i_size i_sort i_what i_at i_end i_worth i_faultKind i_faultPlace i_got i_worked (nI dl) i_isPlanned u_15 u_16)), (q 51, .inl (E.2.1 0, 512, .inl a_least)), (q 55, .inl (E.2.1 0, 4, .inl f_29)), (q 54, .inl (E.2.1 0, 7, .inl u_18)), (q 53, .inl (E.2.1 0, 7, .inl (upd u_19 (Int32.toNatClampNeg 5) 1)))] H := hP
    have hD : va_D A [(h0, .inr (12, mG q i_taped i_size i_sort i_what i_at i_end i_worth i_faultKind i_faultPlace i_got i_worked (nI dl) i_isPlanned u_15 u_16)), (q 51, .inl (E.2.1 0, 512, .inl a_least)), (q 55, .inl (E.2.1 0, 4, .inl f_29)), (q 54, .inl (E.2.1 0, 7, .inl u_18)), (q 53, .inl (E.2.1 0, 7, .inl (upd u_19 (Int32.toNatClampNeg 5) 1)))] := hD
    obtain ⟨f_31, ef_31⟩ : ∃ g : Nat → Int32, g = upd u_19 (Int32.toNatClampNeg 5) 1 := ⟨_, rfl⟩
    rw [← ef_31] at hP hD
    refine lv_aload_n hx hb dX12_give_184 rfl (lv_at hl 1 rfl) ?_
    refine va_get (D := E.1) (ci := 12) (v := .ref (q 55)) (C := RX12) (T := TX12) (N := 59) hx hb hts inX12 hown hK hP 0 rfl rfl 55 (by decide) fl142 (fun _ h9 => h9) rfl dX12_give_185 ?_
    refine lv_iload_n hx hb dX12_give_188 rfl (lv_at hl 0 rfl) ?_
    refine lv_dup2_11 hx hb dX12_give_189 rfl rfl ?_
    refine va_iald hx hb hK hP 2 0 rfl rfl (show vp_in 1 4 from by unfold vp_in; decide) dX12_give_190 ?_
    refine lv_topi (fun x_32 ex_32 => ?_)
    have hv_33 : inR x_32 0 127 = true := by rw [ex_32]; exact hI_30 _ (vin_cl (show vp_in 1 4 from by unfold vp_in; decide))
    obtain ⟨w_34, hw_35, ew_36⟩ := inR_nI (n := 127) (by decide) hv_33
    subst ew_36
    refine lv_iconst (v := 1) hx hb dX12_give_191 (by decide) ?_
    refine lv_iload_n hx hb dX12_give_192 rfl (lv_at hl 2 rfl) ?_
    refine lv_ishl hx hb dX12_give_193 ?_
    refine lv_topi (fun x_37 ex_37 => ?_)
    obtain rfl : x_37 = 32 := ex_37.trans (by decide +kernel)
    refine lv_ior hx hb dX12_give_194 ?_
    refine lv_topi (fun x_38 ex_38 => ?_)
    refine va_iast hx hb hK hP hD hS 2 0 rfl rfl (show vp_in 1 4 from by unfold vp_in; decide) dX12_give_195 (fun H locs hP hD hS => ?_)
    have hP : va_P E.1 vwCl [(h0, .inr (12, mG q i_taped i_size i_sort i_what i_at i_end i_worth i_faultKind i_faultPlace i_got i_worked (nI dl) i_isPlanned u_15 u_16)), (q 51, .inl (E.2.1 0, 512, .inl a_least)), (q 55, .inl (E.2.1 0, 4, .inl (upd f_29 (Int32.toNatClampNeg 1) x_38))), (q 54, .inl (E.2.1 0, 7, .inl u_18)), (q 53, .inl (E.2.1 0, 7, .inl f_31))] H := hP
    have hD : va_D A [(h0, .inr (12, mG q i_taped i_size i_sort i_what i_at i_end i_worth i_faultKind i_faultPlace i_got i_worked (nI dl) i_isPlanned u_15 u_16)), (q 51, .inl (E.2.1 0, 512, .inl a_least)), (q 55, .inl (E.2.1 0, 4, .inl (upd f_29 (Int32.toNatClampNeg 1) x_38))), (q 54, .inl (E.2.1 0, 7, .inl u_18)), (q 53, .inl (E.2.1 0, 7, .inl f_31))] := hD
    obtain ⟨f_39, ef_39⟩ : ∃ g : Nat → Int32, g = upd f_29 (Int32.toNatClampNeg 1) x_38 := ⟨_, rfl⟩
    rw [← ef_39] at hP hD
    have hI_40 : ∀ k : Nat, k < 4 → inR (f_39 k) 0 127 = true := by rw [ef_39]; exact all_upd (P := fun z => inR z 0 127 = true) hI_30 (by rw [ex_38]; exact or_lt7 _ (by omega) 5 (by decide))
    refine lv_aload_n hx hb dX12_give_196 rfl (lv_at hl 1 rfl) ?_
    refine lv_iload_n hx hb dX12_give_197 rfl (lv_at hl 2 rfl) ?_
    refine lv_iconst (v := 1) hx hb dX12_give_198 (by decide) ?_
    refine lv_iadd hx hb dX12_give_199 ?_
    refine lv_topi (fun x_41 ex_41 => ?_)
    obtain rfl : x_41 = 6 := ex_41.trans (by decide +kernel)
    have hPc := hP.sub (ws' := [(h0, .inr (12, mG q i_taped i_size i_sort i_what i_at i_end i_worth i_faultKind i_faultPlace i_got i_worked (nI dl) i_isPlanned u_15 u_16)), (q 51, .inl (E.2.1 0, 512, .inl a_least)), (q 55, .inl (E.2.1 0, 4, .inl f_39)), (q 54, .inl (E.2.1 0, 7, .inl u_18)), (q 53, .inl (E.2.1 0, 7, .inl f_31))]) [0, 1, 2, 3, 4] rfl
    have hDc := hD.sub (ws' := [(h0, .inr (12, mG q i_taped i_size i_sort i_what i_at i_end i_worth i_faultKind i_faultPlace i_got i_worked (nI dl) i_isPlanned u_15 u_16)), (q 51, .inl (E.2.1 0, 512, .inl a_least)), (q 55, .inl (E.2.1 0, 4, .inl f_39)), (q 54, .inl (E.2.1 0, 7, .inl u_18)), (q 53, .inl (E.2.1 0, 7, .inl f_31))]) [0, 1, 2, 3, 4] (by decide) rfl
    have hFc := va_free (wc := [(h0, .inr (12, mG q i_taped i_size i_sort i_what i_at i_end i_worth i_faultKind i_faultPlace i_got i_worked (nI dl) i_isPlanned u_15 u_16)), (q 51, .inl (E.2.1 0, 512, .inl a_least)), (q 55, .inl (E.2.1 0, 4, .inl f_39)), (q 54, .inl (E.2.1 0, 7, .inl u_18)), (q 53, .inl (E.2.1 0, 7, .inl f_31))]) hD hS hA [0, 1, 2, 3, 4] rfl
    refine va_callv (va_runV (As := [.int 6]) (rest := []) ⟨hx, hb, hml, hown, hts⟩ (c_X12_give6 l E h0 q i_taped i_size i_sort i_what i_at i_end i_worth i_faultKind i_faultPlace i_got i_worked i_isPlanned u_15 u_16 dl a_least f_39 u_18 f_31 H.size hdl hd2 hI_40) (cwV 1 hts gX12_give_X12_give rfl rfl rfl hdV_X12_give ⟨Nat.le_of_ble_eq_true rfl, Nat.le_of_ble_eq_true rfl⟩) ⟨pcW_blind, va_recv hK hPc (ci := 12) (q0 := 0) rfl rfl, (pcW_pre hPc hkn hDc hst hS hFc)⟩ rfl rfl hl.1 rfl (lv_room (Nat.le_of_ble_eq_true rfl)) dX12_give_200 ⟨Nat.le_of_ble_eq_true rfl, Nat.le_of_ble_eq_true rfl⟩) hS (fun q _ h => hFc q h) hFc (fun u t H1 locs ht hvm hw_43 hB hz1 hk1 hS => ?_)
    obtain ⟨u_44, u_45, u_46, u_47, u_48⟩ := u
    obtain ⟨hf_49, hP1, hD1⟩ := hB
    rw [ht] at hP1
    try dsimp only at hw_43
    obtain ⟨hP, hD⟩ := va_join (wr := []) (w1 := [(h0, .inr (12, mG q i_taped i_size i_sort i_what i_at i_end i_worth i_faultKind i_faultPlace i_got i_worked (nI dl) i_isPlanned u_44 u_45)), (q 51, .inl (E.2.1 0, 512, .inl a_least)), (q 55, .inl (E.2.1 0, 4, .inl u_46)), (q 54, .inl (E.2.1 0, 7, .inl u_47)), (q 53, .inl (E.2.1 0, 7, .inl u_48))]) hP hD [0, 1, 2, 3, 4] [] rfl rfl (by decide) (by decide) hk1 hFc hP1 hD1
    generalize H1 = H at hP hS ⊢
    have hP : va_P E.1 vwCl [(h0, .inr (12, mG q i_taped i_size i_sort i_what i_at i_end i_worth i_faultKind i_faultPlace i_got i_worked (nI dl) i_isPlanned u_44 u_45)), (q 51, .inl (E.2.1 0, 512, .inl a_least)), (q 55, .inl (E.2.1 0, 4, .inl u_46)), (q 54, .inl (E.2.1 0, 7, .inl u_47)), (q 53, .inl (E.2.1 0, 7, .inl u_48))] H := hP
    have hD : va_D A [(h0, .inr (12, mG q i_taped i_size i_sort i_what i_at i_end i_worth i_faultKind i_faultPlace i_got i_worked (nI dl) i_isPlanned u_44 u_45)), (q 51, .inl (E.2.1 0, 512, .inl a_least)), (q 55, .inl (E.2.1 0, 4, .inl u_46)), (q 54, .inl (E.2.1 0, 7, .inl u_47)), (q 53, .inl (E.2.1 0, 7, .inl u_48))] := hD
    refine lv_aload_n hx hb dX12_give_203 rfl (lv_at hl 1 rfl) ?_
    refine va_get (D := E.1) (ci := 12) (v := .ref (q 55)) (C := RX12) (T := TX12) (N := 59) hx hb hts inX12 hown hK hP 0 rfl rfl 55 (by decide) fl142 (fun _ h9 => h9) rfl dX12_give_204 ?_
    refine lv_iload_n hx hb dX12_give_207 rfl (lv_at hl 0 rfl) ?_
    refine lv_dup2_11 hx hb dX12_give_208 rfl rfl ?_
    refine va_iald hx hb hK hP 2 0 rfl rfl (show vp_in 1 4 from by unfold vp_in; decide) dX12_give_209 ?_
    refine lv_topi (fun x_50 ex_50 => ?_)
    have hv_51 : inR x_50 0 127 = true := by rw [ex_50]; exact hf_49 _ (vin_cl (show vp_in 1 4 from by unfold vp_in; decide))
    obtain ⟨w_52, hw_53, ew_54⟩ := inR_nI (n := 127) (by decide) hv_51
    subst ew_54
    refine lv_iconst (v := 1) hx hb dX12_give_210 (by decide) ?_
    refine lv_iload_n hx hb dX12_give_211 rfl (lv_at hl 2 rfl) ?_
    refine lv_ishl hx hb dX12_give_212 ?_
    refine lv_topi (fun x_55 ex_55 => ?_)
    obtain rfl : x_55 = 32 := ex_55.trans (by decide +kernel)
    refine lv_iconst (v := (-1)) hx hb dX12_give_213 (by decide) ?_
    refine lv_ixor hx hb dX12_give_214 ?_
    refine lv_topi (fun x_56 ex_56 => ?_)
    obtain rfl : x_56 = (-33) := ex_56.trans (by decide +kernel)
    refine lv_iand hx hb dX12_give_215 ?_
    refine lv_topi (fun x_57 ex_57 => ?_)
    refine va_iast hx hb hK hP hD hS 2 0 rfl rfl (show vp_in 1 4 from by unfold vp_in; decide) dX12_give_216 (fun H locs hP hD hS => ?_)
    have hP : va_P E.1 vwCl [(h0, .inr (12, mG q i_taped i_size i_sort i_what i_at i_end i_worth i_faultKind i_faultPlace i_got i_worked (nI dl) i_isPlanned u_44 u_45)), (q 51, .inl (E.2.1 0, 512, .inl a_least)), (q 55, .inl (E.2.1 0, 4, .inl (upd u_46 (Int32.toNatClampNeg 1) x_57))), (q 54, .inl (E.2.1 0, 7, .inl u_47)), (q 53, .inl (E.2.1 0, 7, .inl u_48))] H := hP
    have hD : va_D A [(h0, .inr (12, mG q i_taped i_size i_sort i_what i_at i_end i_worth i_faultKind i_faultPlace i_got i_worked (nI dl) i_isPlanned u_44 u_45)), (q 51, .inl (E.2.1 0, 512, .inl a_least)), (q 55, .inl (E.2.1 0, 4, .inl (upd u_46 (Int32.toNatClampNeg 1) x_57))), (q 54, .inl (E.2.1 0, 7, .inl u_47)), (q 53, .inl (E.2.1 0, 7, .inl u_48))] := hD
    obtain ⟨f_58, ef_58⟩ : ∃ g : Nat → Int32, g = upd u_46 (Int32.toNatClampNeg 1) x_57 := ⟨_, rfl⟩
    rw [← ef_58] at hP hD
    have hI_59 : ∀ k : Nat, k < 4 → inR (f_58 k) 0 127 = true := by rw [ef_58]; exact all_upd (P := fun z => inR z 0 127 = true) hf_49 (by rw [ex_57]; exact and_lt7 _ (by omega) 5 (by decide))
    refine lv_iinc (v := 2) (lv' := [(2, .int 2), (0, .ref h0), (1, .int 5)]) hx hb dX12_give_217 hl (k := 0) rfl (by decide) (by decide) rfl (fun ls hl => ?_)
    refine lv_goto (tgt := 172) hx hb dX12_give_220 (by decide) ?_
    refine lv_iload_n hx hb dX12_give_172 rfl (lv_at hl 0 rfl) ?_
    refine lv_iconst (v := 4) hx hb dX12_give_173 (by decide) ?_
    refine lv_icmp_ge (tgt := 223) hx hb dX12_give_174 (by decide) (fun c9 => absurd c9 (by decide)) (fun _ => ?_)
    refine lv_aload_n hx hb dX12_give_177 rfl (lv_at hl 1 rfl) ?_
    refine va_get (D := E.1) (ci := 12) (v := .ref (q 53)) (C := RX12) (T := TX12) (N := 59) hx hb hts inX12 hown hK hP 0 rfl rfl 53 (by decide) fl136 (fun _ h9 => h9) rfl dX12_give_178 ?_
    refine lv_iload_n hx hb dX12_give_181 rfl (lv_at hl 2 rfl) ?_
    refine lv_iload_n hx hb dX12_give_182 rfl (lv_at hl 0 rfl) ?_
    refine va_iast hx hb hK hP hD hS 4 0 rfl rfl (show vp_in 5 7 from by unfold vp_in; decide) dX12_give_183 (fun H locs hP hD hS => ?_)
    have hP : va_P E.1 vwCl [(h0, .inr (12, mG q i_taped i_size i_sort i_what i_at i_end i_worth i_faultKind i_faultPlace i_got i_worked (nI dl) i_isPlanned u_44 u_45)), (q 51, .inl (E.2.1 0, 512, .inl a_least)), (q 55, .inl (E.2.1 0, 4, .inl f_58)), (q 54, .inl (E.2.1 0, 7, .inl u_47)), (q 53, .inl (E.2.1 0, 7, .inl (upd u_48 (Int32.toNatClampNeg 5) 2)))] H := hP
    have hD : va_D A [(h0, .inr (12, mG q i_taped i_size i_sort i_what i_at i_end i_worth i_faultKind i_faultPlace i_got i_worked (nI dl) i_isPlanned u_44 u_45)), (q 51, .inl (E.2.1 0, 512, .inl a_least)), (q 55, .inl (E.2.1 0, 4, .inl f_58)), (q 54, .inl (E.2.1 0, 7, .inl u_47)), (q 53, .inl (E.2.1 0, 7, .inl (upd u_48 (Int32.toNatClampNeg 5) 2)))] := hD
    obtain ⟨f_60, ef_60⟩ : ∃ g : Nat → Int32, g = upd u_48 (Int32.toNatClampNeg 5) 2 := ⟨_, rfl⟩
    rw [← ef_60] at hP hD
    refine lv_aload_n hx hb dX12_give_184 rfl (lv_at hl 1 rfl) ?_
    refine va_get (D := E.1) (ci := 12) (v := .ref (q 55)) (C := RX12) (T := TX12) (N := 59) hx hb hts inX12 hown hK hP 0 rfl rfl 55 (by decide) fl142 (fun _ h9 => h9) rfl dX12_give_185 ?_
    refine lv_iload_n hx hb dX12_give_188 rfl (lv_at hl 0 rfl) ?_
    refine lv_dup2_11 hx hb dX12_give_189 rfl rfl ?_
    refine va_iald hx hb hK hP 2 0 rfl rfl (show vp_in 2 4 from by unfold vp_in; decide) dX12_give_190 ?_
    refine lv_topi (fun x_61 ex_61 => ?_)
    have hv_62 : inR x_61 0 127 = true := by rw [ex_61]; exact hI_59 _ (vin_cl (show vp_in 2 4 from by unfold vp_in; decide))
    obtain ⟨w_63, hw_64, ew_65⟩ := inR_nI (n := 127) (by decide) hv_62
    subst ew_65
    refine lv_iconst (v := 1) hx hb dX12_give_191 (by decide) ?_
    refine lv_iload_n hx hb dX12_give_192 rfl (lv_at hl 2 rfl) ?_
    refine lv_ishl hx hb dX12_give_193 ?_
    refine lv_topi (fun x_66 ex_66 => ?_)
    obtain rfl : x_66 = 32 := ex_66.trans (by decide +kernel)
    refine lv_ior hx hb dX12_give_194 ?_
    refine lv_topi (fun x_67 ex_67 => ?_)
    refine va_iast hx hb hK hP hD hS 2 0 rfl rfl (show vp_in 2 4 from by unfold vp_in; decide) dX12_give_195 (fun H locs hP hD hS => ?_)
    have hP : va_P E.1 vwCl [(h0, .inr (12, mG q i_taped i_size i_sort i_what i_at i_end i_worth i_faultKind i_faultPlace i_got i_worked (nI dl) i_isPlanned u_44 u_45)), (q 51, .inl (E.2.1 0, 512, .inl a_least)), (q 55, .inl (E.2.1 0, 4, .inl (upd f_58 (Int32.toNatClampNeg 2) x_67))), (q 54, .inl (E.2.1 0, 7, .inl u_47)), (q 53, .inl (E.2.1 0, 7, .inl f_60))] H := hP
    have hD : va_D A [(h0, .inr (12, mG q i_taped i_size i_sort i_what i_at i_end i_worth i_faultKind i_faultPlace i_got i_worked (nI dl) i_isPlanned u_44 u_45)), (q 51, .inl (E.2.1 0, 512, .inl a_least)), (q 55, .inl (E.2.1 0, 4, .inl (upd f_58 (Int32.toNatClampNeg 2) x_67))), (q 54, .inl (E.2.1 0, 7, .inl u_47)), (q 53, .inl (E.2.1 0, 7, .inl f_60))] := hD
    obtain ⟨f_68, ef_68⟩ : ∃ g : Nat → Int32, g = upd f_58 (Int32.toNatClampNeg 2) x_67 := ⟨_, rfl⟩
    rw [← ef_68] at hP hD
    have hI_69 : ∀ k : Nat, k < 4 → inR (f_68 k) 0 127 = true := by rw [ef_68]; exact all_upd (P := fun z => inR z 0 127 = true) hI_59 (by rw [ex_67]; exact or_lt7 _ (by omega) 5 (by decide))
    refine lv_aload_n hx hb dX12_give_196 rfl (lv_at hl 1 rfl) ?_
    refine lv_iload_n hx hb dX12_give_197 rfl (lv_at hl 2 rfl) ?_
    refine lv_iconst (v := 1) hx hb dX12_give_198 (by decide) ?_
    refine lv_iadd hx hb dX12_give_199 ?_
    refine lv_topi (fun x_70 ex_70 => ?_)
    obtain rfl : x_70 = 6 := ex_70.trans (by decide +kernel)
    have hPc := hP.sub (ws' := [(h0, .inr (12, mG q i_taped i_size i_sort i_what i_at i_end i_worth i_faultKind i_faultPlace i_got i_worked (nI dl) i_isPlanned u_44 u_45)), (q 51, .inl (E.2.1 0, 512, .inl a_least)), (q 55, .inl (E.2.1 0, 4, .inl f_68)), (q 54, .inl (E.2.1 0, 7, .inl u_47)), (q 53, .inl (E.2.1 0, 7, .inl f_60))]) [0, 1, 2, 3, 4] rfl
    have hDc := hD.sub (ws' := [(h0, .inr (12, mG q i_taped i_size i_sort i_what i_at i_end i_worth i_faultKind i_faultPlace i_got i_worked (nI dl) i_isPlanned u_44 u_45)), (q 51, .inl (E.2.1 0, 512, .inl a_least)), (q 55, .inl (E.2.1 0, 4, .inl f_68)), (q 54, .inl (E.2.1 0, 7, .inl u_47)), (q 53, .inl (E.2.1 0, 7, .inl f_60))]) [0, 1, 2, 3, 4] (by decide) rfl
    have hFc := va_free (wc := [(h0, .inr (12, mG q i_taped i_size i_sort i_what i_at i_end i_worth i_faultKind i_faultPlace i_got i_worked (nI dl) i_isPlanned u_44 u_45)), (q 51, .inl (E.2.1 0, 512, .inl a_least)), (q 55, .inl (E.2.1 0, 4, .inl f_68)), (q 54, .inl (E.2.1 0, 7, .inl u_47)), (q 53, .inl (E.2.1 0, 7, .inl f_60))]) hD hS hA [0, 1, 2, 3, 4] rfl
    refine va_callv (va_runV (As := [.int 6]) (rest := []) ⟨hx, hb, hml, hown, hts⟩ (c_X12_give6 l E h0 q i_taped i_size i_sort i_what i_at i_end i_worth i_faultKind i_faultPlace i_got i_worked i_isPlanned u_44 u_45 dl a_least f_68 u_47 f_60 H.size hdl hd2 hI_69) (cwV 1 hts gX12_give_X12_give rfl rfl rfl hdV_X12_give ⟨Nat.le_of_ble_eq_true rfl, Nat.le_of_ble_eq_true rfl⟩) ⟨pcW_blind, va_recv hK hPc (ci := 12) (q0 := 0) rfl rfl, (pcW_pre hPc hkn hDc hst hS hFc)⟩ rfl rfl hl.1 rfl (lv_room (Nat.le_of_ble_eq_true rfl)) dX12_give_200 ⟨Nat.le_of_ble_eq_true rfl, Nat.le_of_ble_eq_true rfl⟩) hS (fun q _ h => hFc q h) hFc (fun u t H1 locs ht hvm hw_72 hB hz1 hk1 hS => ?_)
    obtain ⟨u_73, u_74, u_75, u_76, u_77⟩ := u
    obtain ⟨hf_78, hP1, hD1⟩ := hB
    rw [ht] at hP1
    try dsimp only at hw_72
    obtain ⟨hP, hD⟩ := va_join (wr := []) (w1 := [(h0, .inr (12, mG q i_taped i_size i_sort i_what i_at i_end i_worth i_faultKind i_faultPlace i_got i_worked (nI dl) i_isPlanned u_73 u_74)), (q 51, .inl (E.2.1 0, 512, .inl a_least)), (q 55, .inl (E.2.1 0, 4, .inl u_75)), (q 54, .inl (E.2.1 0, 7, .inl u_76)), (q 53, .inl (E.2.1 0, 7, .inl u_77))]) hP hD [0, 1, 2, 3, 4] [] rfl rfl (by decide) (by decide) hk1 hFc hP1 hD1
    generalize H1 = H at hP hS ⊢
    have hP : va_P E.1 vwCl [(h0, .inr (12, mG q i_taped i_size i_sort i_what i_at i_end i_worth i_faultKind i_faultPlace i_got i_worked (nI dl) i_isPlanned u_73 u_74)), (q 51, .inl (E.2.1 0, 512, .inl a_least)), (q 55, .inl (E.2.1 0, 4, .inl u_75)), (q 54, .inl (E.2.1 0, 7, .inl u_76)), (q 53, .inl (E.2.1 0, 7, .inl u_77))] H := hP
    have hD : va_D A [(h0, .inr (12, mG q i_taped i_size i_sort i_what i_at i_end i_worth i_faultKind i_faultPlace i_got i_worked (nI dl) i_isPlanned u_73 u_74)), (q 51, .inl (E.2.1 0, 512, .inl a_least)), (q 55, .inl (E.2.1 0, 4, .inl u_75)), (q 54, .inl (E.2.1 0, 7, .inl u_76)), (q 53, .inl (E.2.1 0, 7, .inl u_77))] := hD
    refine lv_aload_n hx hb dX12_give_203 rfl (lv_at hl 1 rfl) ?_
    refine va_get (D := E.1) (ci := 12) (v := .ref (q 55)) (C := RX12) (T := TX12) (N := 59) hx hb hts inX12 hown hK hP 0 rfl rfl 55 (by decide) fl142 (fun _ h9 => h9) rfl dX12_give_204 ?_
    refine lv_iload_n hx hb dX12_give_207 rfl (lv_at hl 0 rfl) ?_
    refine lv_dup2_11 hx hb dX12_give_208 rfl rfl ?_
    refine va_iald hx hb hK hP 2 0 rfl rfl (show vp_in 2 4 from by unfold vp_in; decide) dX12_give_209 ?_
    refine lv_topi (fun x_79 ex_79 => ?_)
    have hv_80 : inR x_79 0 127 = true := by rw [ex_79]; exact hf_78 _ (vin_cl (show vp_in 2 4 from by unfold vp_in; decide))
    obtain ⟨w_81, hw_82, ew_83⟩ := inR_nI (n := 127) (by decide) hv_80
    subst ew_83
    refine lv_iconst (v := 1) hx hb dX12_give_210 (by decide) ?_
    refine lv_iload_n hx hb dX12_give_211 rfl (lv_at hl 2 rfl) ?_
    refine lv_ishl hx hb dX12_give_212 ?_
    refine lv_topi (fun x_84 ex_84 => ?_)
    obtain rfl : x_84 = 32 := ex_84.trans (by decide +kernel)
    refine lv_iconst (v := (-1)) hx hb dX12_give_213 (by decide) ?_
    refine lv_ixor hx hb dX12_give_214 ?_
    refine lv_topi (fun x_85 ex_85 => ?_)
    obtain rfl : x_85 = (-33) := ex_85.trans (by decide +kernel)
    refine lv_iand hx hb dX12_give_215 ?_
    refine lv_topi (fun x_86 ex_86 => ?_)
    refine va_iast hx hb hK hP hD hS 2 0 rfl rfl (show vp_in 2 4 from by unfold vp_in; decide) dX12_give_216 (fun H locs hP hD hS => ?_)
    have hP : va_P E.1 vwCl [(h0, .inr (12, mG q i_taped i_size i_sort i_what i_at i_end i_worth i_faultKind i_faultPlace i_got i_worked (nI dl) i_isPlanned u_73 u_74)), (q 51, .inl (E.2.1 0, 512, .inl a_least)), (q 55, .inl (E.2.1 0, 4, .inl (upd u_75 (Int32.toNatClampNeg 2) x_86))), (q 54, .inl (E.2.1 0, 7, .inl u_76)), (q 53, .inl (E.2.1 0, 7, .inl u_77))] H := hP
    have hD : va_D A [(h0, .inr (12, mG q i_taped i_size i_sort i_what i_at i_end i_worth i_faultKind i_faultPlace i_got i_worked (nI dl) i_isPlanned u_73 u_74)), (q 51, .inl (E.2.1 0, 512, .inl a_least)), (q 55, .inl (E.2.1 0, 4, .inl (upd u_75 (Int32.toNatClampNeg 2) x_86))), (q 54, .inl (E.2.1 0, 7, .inl u_76)), (q 53, .inl (E.2.1 0, 7, .inl u_77))] := hD
    obtain ⟨f_87, ef_87⟩ : ∃ g : Nat → Int32, g = upd u_75 (Int32.toNatClampNeg 2) x_86 := ⟨_, rfl⟩
    rw [← ef_87] at hP hD
    have hI_88 : ∀ k : Nat, k < 4 → inR (f_87 k) 0 127 = true := by rw [ef_87]; exact all_upd (P := fun z => inR z 0 127 = true) hf_78 (by rw [ex_86]; exact and_lt7 _ (by omega) 5 (by decide))
    refine lv_iinc (v := 3) (lv' := [(2, .int 3), (0, .ref h0), (1, .int 5)]) hx hb dX12_give_217 hl (k := 0) rfl (by decide) (by decide) rfl (fun ls hl => ?_)
    refine lv_goto (tgt := 172) hx hb dX12_give_220 (by decide) ?_
    refine lv_iload_n hx hb dX12_give_172 rfl (lv_at hl 0 rfl) ?_
    refine lv_iconst (v := 4) hx hb dX12_give_173 (by decide) ?_
    refine lv_icmp_ge (tgt := 223) hx hb dX12_give_174 (by decide) (fun c9 => absurd c9 (by decide)) (fun _ => ?_)
    refine lv_aload_n hx hb dX12_give_177 rfl (lv_at hl 1 rfl) ?_
    refine va_get (D := E.1) (ci := 12) (v := .ref (q 53)) (C := RX12) (T := TX12) (N := 59) hx hb hts inX12 hown hK hP 0 rfl rfl 53 (by decide) fl136 (fun _ h9 => h9) rfl dX12_give_178 ?_
    refine lv_iload_n hx hb dX12_give_181 rfl (lv_at hl 2 rfl) ?_
    refine lv_iload_n hx hb dX12_give_182 rfl (lv_at hl 0 rfl) ?_
    refine va_iast hx hb hK hP hD hS 4 0 rfl rfl (show vp_in 5 7 from by unfold vp_in; decide) dX12_give_183 (fun H locs hP hD hS => ?_)
    have hP : va_P E.1 vwCl [(h0, .inr (12, mG q i_taped i_size i_sort i_what i_at i_end i_worth i_faultKind i_faultPlace i_got i_worked (nI dl) i_isPlanned u_73 u_74)), (q 51, .inl (E.2.1 0, 512, .inl a_least)), (q 55, .inl (E.2.1 0, 4, .inl f_87)), (q 54, .inl (E.2.1 0, 7, .inl u_76)), (q 53, .inl (E.2.1 0, 7, .inl (upd u_77 (Int32.toNatClampNeg 5) 3)))] H := hP
    have hD : va_D A [(h0, .inr (12, mG q i_taped i_size i_sort i_what i_at i_end i_worth i_faultKind i_faultPlace i_got i_worked (nI dl) i_isPlanned u_73 u_74)), (q 51, .inl (E.2.1 0, 512, .inl a_least)), (q 55, .inl (E.2.1 0, 4, .inl f_87)), (q 54, .inl (E.2.1 0, 7, .inl u_76)), (q 53, .inl (E.2.1 0, 7, .inl (upd u_77 (Int32.toNatClampNeg 5) 3)))] := hD
    obtain ⟨f_89, ef_89⟩ : ∃ g : Nat → Int32, g = upd u_77 (Int32.toNatClampNeg 5) 3 := ⟨_, rfl⟩
    rw [← ef_89] at hP hD
    refine lv_aload_n hx hb dX12_give_184 rfl (lv_at hl 1 rfl) ?_
    refine va_get (D := E.1) (ci := 12) (v := .ref (q 55)) (C := RX12) (T := TX12) (N := 59) hx hb hts inX12 hown hK hP 0 rfl rfl 55 (by decide) fl142 (fun _ h9 => h9) rfl dX12_give_185 ?_
    refine lv_iload_n hx hb dX12_give_188 rfl (lv_at hl 0 rfl) ?_
    refine lv_dup2_11 hx hb dX12_give_189 rfl rfl ?_
    refine va_iald hx hb hK hP 2 0 rfl rfl (show vp_in 3 4 from by unfold vp_in; decide) dX12_give_190 ?_
    refine lv_topi (fun x_90 ex_90 => ?_)
    have hv_91 : inR x_90 0 127 = true := by rw [ex_90]; exact hI_88 _ (vin_cl (show vp_in 3 4 from by unfold vp_in; decide))
    obtain ⟨w_92, hw_93, ew_94⟩ := inR_nI (n := 127) (by decide) hv_91
    subst ew_94
    refine lv_iconst (v := 1) hx hb dX12_give_191 (by decide) ?_
    refine lv_iload_n hx hb dX12_give_192 rfl (lv_at hl 2 rfl) ?_
    refine lv_ishl hx hb dX12_give_193 ?_
    refine lv_topi (fun x_95 ex_95 => ?_)
    obtain rfl : x_95 = 32 := ex_95.trans (by decide +kernel)
    refine lv_ior hx hb dX12_give_194 ?_
    refine lv_topi (fun x_96 ex_96 => ?_)
    refine va_iast hx hb hK hP hD hS 2 0 rfl rfl (show vp_in 3 4 from by unfold vp_in; decide) dX12_give_195 (fun H locs hP hD hS => ?_)
    have hP : va_P E.1 vwCl [(h0, .inr (12, mG q i_taped i_size i_sort i_what i_at i_end i_worth i_faultKind i_faultPlace i_got i_worked (nI dl) i_isPlanned u_73 u_74)), (q 51, .inl (E.2.1 0, 512, .inl a_least)), (q 55, .inl (E.2.1 0, 4, .inl (upd f_87 (Int32.toNatClampNeg 3) x_96))), (q 54, .inl (E.2.1 0, 7, .inl u_76)), (q 53, .inl (E.2.1 0, 7, .inl f_89))] H := hP
    have hD : va_D A [(h0, .inr (12, mG q i_taped i_size i_sort i_what i_at i_end i_worth i_faultKind i_faultPlace i_got i_worked (nI dl) i_isPlanned u_73 u_74)), (q 51, .inl (E.2.1 0, 512, .inl a_least)), (q 55, .inl (E.2.1 0, 4, .inl (upd f_87 (Int32.toNatClampNeg 3) x_96))), (q 54, .inl (E.2.1 0, 7, .inl u_76)), (q 53, .inl (E.2.1 0, 7, .inl f_89))] := hD
    obtain ⟨f_97, ef_97⟩ : ∃ g : Nat → Int32, g = upd f_87 (Int32.toNatClampNeg 3) x_96 := ⟨_, rfl⟩
    rw [← ef_97] at hP hD
    have hI_98 : ∀ k : Nat, k < 4 → inR (f_97 k) 0 127 = true := by rw [ef_97]; exact all_upd (P := fun z => inR z 0 127 = true) hI_88 (by rw [ex_96]; exact or_lt7 _ (by omega) 5 (by decide))
    refine lv_aload_n hx hb dX12_give_196 rfl (lv_at hl 1 rfl) ?_
    refine lv_iload_n hx hb dX12_give_197 rfl (lv_at hl 2 rfl) ?_
    refine lv_iconst (v := 1) hx hb dX12_give_198 (by decide) ?_
    refine lv_iadd hx hb dX12_give_199 ?_
    refine lv_topi (fun x_99 ex_99 => ?_)
    obtain rfl : x_99 = 6 := ex_99.trans (by decide +kernel)
    have hPc := hP.sub (ws' := [(h0, .inr (12, mG q i_taped i_size i_sort i_what i_at i_end i_worth i_faultKind i_faultPlace i_got i_worked (nI dl) i_isPlanned u_73 u_74)), (q 51, .inl (E.2.1 0, 512, .inl a_least)), (q 55, .inl (E.2.1 0, 4, .inl f_97)), (q 54, .inl (E.2.1 0, 7, .inl u_76)), (q 53, .inl (E.2.1 0, 7, .inl f_89))]) [0, 1, 2, 3, 4] rfl
    have hDc := hD.sub (ws' := [(h0, .inr (12, mG q i_taped i_size i_sort i_what i_at i_end i_worth i_faultKind i_faultPlace i_got i_worked (nI dl) i_isPlanned u_73 u_74)), (q 51, .inl (E.2.1 0, 512, .inl a_least)), (q 55, .inl (E.2.1 0, 4, .inl f_97)), (q 54, .inl (E.2.1 0, 7, .inl u_76)), (q 53, .inl (E.2.1 0, 7, .inl f_89))]) [0, 1, 2, 3, 4] (by decide) rfl
    have hFc := va_free (wc := [(h0, .inr (12, mG q i_taped i_size i_sort i_what i_at i_end i_worth i_faultKind i_faultPlace i_got i_worked (nI dl) i_isPlanned u_73 u_74)), (q 51, .inl (E.2.1 0, 512, .inl a_least)), (q 55, .inl (E.2.1 0, 4, .inl f_97)), (q 54, .inl (E.2.1 0, 7, .inl u_76)), (q 53, .inl (E.2.1 0, 7, .inl f_89))]) hD hS hA [0, 1, 2, 3, 4] rfl
    refine va_callv (va_runV (As := [.int 6]) (rest := []) ⟨hx, hb, hml, hown, hts⟩ (c_X12_give6 l E h0 q i_taped i_size i_sort i_what i_at i_end i_worth i_faultKind i_faultPlace i_got i_worked i_isPlanned u_73 u_74 dl a_least f_97 u_76 f_89 H.size hdl hd2 hI_98) (cwV 1 hts gX12_give_X12_give rfl rfl rfl hdV_X12_give ⟨Nat.le_of_ble_eq_true rfl, Nat.le_of_ble_eq_true rfl⟩) ⟨pcW_blind, va_recv hK hPc (ci := 12) (q0 := 0) rfl rfl, (pcW_pre hPc hkn hDc hst hS hFc)⟩ rfl rfl hl.1 rfl (lv_room (Nat.le_of_ble_eq_true rfl)) dX12_give_200 ⟨Nat.le_of_ble_eq_true rfl, Nat.le_of_ble_eq_true rfl⟩) hS (fun q _ h => hFc q h) hFc (fun u t H1 locs ht hvm hw_101 hB hz1 hk1 hS => ?_)
    obtain ⟨u_102, u_103, u_104, u_105, u_106⟩ := u
    obtain ⟨hf_107, hP1, hD1⟩ := hB
    rw [ht] at hP1
    try dsimp only at hw_101
    obtain ⟨hP, hD⟩ := va_join (wr := []) (w1 := [(h0, .inr (12, mG q i_taped i_size i_sort i_what i_at i_end i_worth i_faultKind i_faultPlace i_got i_worked (nI dl) i_isPlanned u_102 u_103)), (q 51, .inl (E.2.1 0, 512, .inl a_least)), (q 55, .inl (E.2.1 0, 4, .inl u_104)), (q 54, .inl (E.2.1 0, 7, .inl u_105)), (q 53, .inl (E.2.1 0, 7, .inl u_106))]) hP hD [0, 1, 2, 3, 4] [] rfl rfl (by decide) (by decide) hk1 hFc hP1 hD1
    generalize H1 = H at hP hS ⊢
    have hP : va_P E.1 vwCl [(h0, .inr (12, mG q i_taped i_size i_sort i_what i_at i_end i_worth i_faultKind i_faultPlace i_got i_worked (nI dl) i_isPlanned u_102 u_103)), (q 51, .inl (E.2.1 0, 512, .inl a_least)), (q 55, .inl (E.2.1 0, 4, .inl u_104)), (q 54, .inl (E.2.1 0, 7, .inl u_105)), (q 53, .inl (E.2.1 0, 7, .inl u_106))] H := hP
    have hD : va_D A [(h0, .inr (12, mG q i_taped i_size i_sort i_what i_at i_end i_worth i_faultKind i_faultPlace i_got i_worked (nI dl) i_isPlanned u_102 u_103)), (q 51, .inl (E.2.1 0, 512, .inl a_least)), (q 55, .inl (E.2.1 0, 4, .inl u_104)), (q 54, .inl (E.2.1 0, 7, .inl u_105)), (q 53, .inl (E.2.1 0, 7, .inl u_106))] := hD
    refine lv_aload_n hx hb dX12_give_203 rfl (lv_at hl 1 rfl) ?_
    refine va_get (D := E.1) (ci := 12) (v := .ref (q 55)) (C := RX12) (T := TX12) (N := 59) hx hb hts inX12 hown hK hP 0 rfl rfl 55 (by decide) fl142 (fun _ h9 => h9) rfl dX12_give_204 ?_
    refine lv_iload_n hx hb dX12_give_207 rfl (lv_at hl 0 rfl) ?_
    refine lv_dup2_11 hx hb dX12_give_208 rfl rfl ?_
    refine va_iald hx hb hK hP 2 0 rfl rfl (show vp_in 3 4 from by unfold vp_in; decide) dX12_give_209 ?_
    refine lv_topi (fun x_108 ex_108 => ?_)
    have hv_109 : inR x_108 0 127 = true := by rw [ex_108]; exact hf_107 _ (vin_cl (show vp_in 3 4 from by unfold vp_in; decide))
    obtain ⟨w_110, hw_111, ew_112⟩ := inR_nI (n := 127) (by decide) hv_109
    subst ew_112
    refine lv_iconst (v := 1) hx hb dX12_give_210 (by decide) ?_
    refine lv_iload_n hx hb dX12_give_211 rfl (lv_at hl 2 rfl) ?_
    refine lv_ishl hx hb dX12_give_212 ?_
    refine lv_topi (fun x_113 ex_113 => ?_)
    obtain rfl : x_113 = 32 := ex_113.trans (by decide +kernel)
    refine lv_iconst (v := (-1)) hx hb dX12_give_213 (by decide) ?_
    refine lv_ixor hx hb dX12_give_214 ?_
    refine lv_topi (fun x_114 ex_114 => ?_)
    obtain rfl : x_114 = (-33) := ex_114.trans (by decide +kernel)
    refine lv_iand hx hb dX12_give_215 ?_
    refine lv_topi (fun x_115 ex_115 => ?_)
    refine va_iast hx hb hK hP hD hS 2 0 rfl rfl (show vp_in 3 4 from by unfold vp_in; decide) dX12_give_216 (fun H locs hP hD hS => ?_)
    have hP : va_P E.1 vwCl [(h0, .inr (12, mG q i_taped i_size i_sort i_what i_at i_end i_worth i_faultKind i_faultPlace i_got i_worked (nI dl) i_isPlanned u_102 u_103)), (q 51, .inl (E.2.1 0, 512, .inl a_least)), (q 55, .inl (E.2.1 0, 4, .inl (upd u_104 (Int32.toNatClampNeg 3) x_115))), (q 54, .inl (E.2.1 0, 7, .inl u_105)), (q 53, .inl (E.2.1 0, 7, .inl u_106))] H := hP
    have hD : va_D A [(h0, .inr (12, mG q i_taped i_size i_sort i_what i_at i_end i_worth i_faultKind i_faultPlace i_got i_worked (nI dl) i_isPlanned u_102 u_103)), (q 51, .inl (E.2.1 0, 512, .inl a_least)), (q 55, .inl (E.2.1 0, 4, .inl (upd u_104 (Int32.toNatClampNeg 3) x_115))), (q 54, .inl (E.2.1 0, 7, .inl u_105)), (q 53, .inl (E.2.1 0, 7, .inl u_106))] := hD
    obtain ⟨f_116, ef_116⟩ : ∃ g : Nat → Int32, g = upd u_104 (Int32.toNatClampNeg 3) x_115 := ⟨_, rfl⟩
    rw [← ef_116] at hP hD
    have hI_117 : ∀ k : Nat, k < 4 → inR (f_116 k) 0 127 = true := by rw [ef_116]; exact all_upd (P := fun z => inR z 0 127 = true) hf_107 (by rw [ex_115]; exact and_lt7 _ (by omega) 5 (by decide))
    refine lv_iinc (v := 4) (lv' := [(2, .int 4), (0, .ref h0), (1, .int 5)]) hx hb dX12_give_217 hl (k := 0) rfl (by decide) (by decide) rfl (fun ls hl => ?_)
    refine lv_goto (tgt := 172) hx hb dX12_give_220 (by decide) ?_
    refine lv_iload_n hx hb dX12_give_172 rfl (lv_at hl 0 rfl) ?_
    refine lv_iconst (v := 4) hx hb dX12_give_173 (by decide) ?_
    refine lv_icmp_ge (tgt := 223) hx hb dX12_give_174 (by decide) (fun _ => ?_) (fun c9 => absurd c9 (by decide))
    refine lv_aload_n hx hb dX12_give_223 rfl (lv_at hl 1 rfl) ?_
    refine va_get (D := E.1) (ci := 12) (v := .ref (q 53)) (C := RX12) (T := TX12) (N := 59) hx hb hts inX12 hown hK hP 0 rfl rfl 53 (by decide) fl136 (fun _ h9 => h9) rfl dX12_give_224 ?_
    refine lv_iload_n hx hb dX12_give_227 rfl (lv_at hl 2 rfl) ?_
    refine lv_iconst (v := (-1)) hx hb dX12_give_228 (by decide) ?_
    refine va_iast hx hb hK hP hD hS 4 0 rfl rfl (show vp_in 5 7 from by unfold vp_in; decide) dX12_give_229 (fun H locs hP hD hS => ?_)
    have hP : va_P E.1 vwCl [(h0, .inr (12, mG q i_taped i_size i_sort i_what i_at i_end i_worth i_faultKind i_faultPlace i_got i_worked (nI dl) i_isPlanned u_102 u_103)), (q 51, .inl (E.2.1 0, 512, .inl a_least)), (q 55, .inl (E.2.1 0, 4, .inl f_116)), (q 54, .inl (E.2.1 0, 7, .inl u_105)), (q 53, .inl (E.2.1 0, 7, .inl (upd u_106 (Int32.toNatClampNeg 5) (-1))))] H := hP
    have hD : va_D A [(h0, .inr (12, mG q i_taped i_size i_sort i_what i_at i_end i_worth i_faultKind i_faultPlace i_got i_worked (nI dl) i_isPlanned u_102 u_103)), (q 51, .inl (E.2.1 0, 512, .inl a_least)), (q 55, .inl (E.2.1 0, 4, .inl f_116)), (q 54, .inl (E.2.1 0, 7, .inl u_105)), (q 53, .inl (E.2.1 0, 7, .inl (upd u_106 (Int32.toNatClampNeg 5) (-1))))] := hD
    obtain ⟨f_118, ef_118⟩ : ∃ g : Nat → Int32, g = upd u_106 (Int32.toNatClampNeg 5) (-1) := ⟨_, rfl⟩
    rw [← ef_118] at hP hD
    refine lv_aload_n hx hb dX12_give_230 rfl (lv_at hl 1 rfl) ?_
    refine lv_iload_n hx hb dX12_give_231 rfl (lv_at hl 2 rfl) ?_
    refine lv_iconst (v := 1) hx hb dX12_give_232 (by decide) ?_
    refine lv_iadd hx hb dX12_give_233 ?_
    refine lv_topi (fun x_119 ex_119 => ?_)
    obtain rfl : x_119 = 6 := ex_119.trans (by decide +kernel)
    have hPc := hP.sub (ws' := [(h0, .inr (12, mG q i_taped i_size i_sort i_what i_at i_end i_worth i_faultKind i_faultPlace i_got i_worked (nI dl) i_isPlanned u_102 u_103)), (q 51, .inl (E.2.1 0, 512, .inl a_least)), (q 55, .inl (E.2.1 0, 4, .inl f_116)), (q 54, .inl (E.2.1 0, 7, .inl u_105)), (q 53, .inl (E.2.1 0, 7, .inl f_118))]) [0, 1, 2, 3, 4] rfl
    have hDc := hD.sub (ws' := [(h0, .inr (12, mG q i_taped i_size i_sort i_what i_at i_end i_worth i_faultKind i_faultPlace i_got i_worked (nI dl) i_isPlanned u_102 u_103)), (q 51, .inl (E.2.1 0, 512, .inl a_least)), (q 55, .inl (E.2.1 0, 4, .inl f_116)), (q 54, .inl (E.2.1 0, 7, .inl u_105)), (q 53, .inl (E.2.1 0, 7, .inl f_118))]) [0, 1, 2, 3, 4] (by decide) rfl
    have hFc := va_free (wc := [(h0, .inr (12, mG q i_taped i_size i_sort i_what i_at i_end i_worth i_faultKind i_faultPlace i_got i_worked (nI dl) i_isPlanned u_102 u_103)), (q 51, .inl (E.2.1 0, 512, .inl a_least)), (q 55, .inl (E.2.1 0, 4, .inl f_116)), (q 54, .inl (E.2.1 0, 7, .inl u_105)), (q 53, .inl (E.2.1 0, 7, .inl f_118))]) hD hS hA [0, 1, 2, 3, 4] rfl
    refine va_callv (va_runV (As := [.int 6]) (rest := []) ⟨hx, hb, hml, hown, hts⟩ (c_X12_give6 l E h0 q i_taped i_size i_sort i_what i_at i_end i_worth i_faultKind i_faultPlace i_got i_worked i_isPlanned u_102 u_103 dl a_least f_116 u_105 f_118 H.size hdl hd2 hI_117) (cwV 1 hts gX12_give_X12_give rfl rfl rfl hdV_X12_give ⟨Nat.le_of_ble_eq_true rfl, Nat.le_of_ble_eq_true rfl⟩) ⟨pcW_blind, va_recv hK hPc (ci := 12) (q0 := 0) rfl rfl, (pcW_pre hPc hkn hDc hst hS hFc)⟩ rfl rfl hl.1 rfl (lv_room (Nat.le_of_ble_eq_true rfl)) dX12_give_234 ⟨Nat.le_of_ble_eq_true rfl, Nat.le_of_ble_eq_true rfl⟩) hS (fun q _ h => hFc q h) hFc (fun u t H1 locs ht hvm hw_121 hB hz1 hk1 hS => ?_)
    obtain ⟨u_122, u_123, u_124, u_125, u_126⟩ := u
    obtain ⟨hf_127, hP1, hD1⟩ := hB
    rw [ht] at hP1
    try dsimp only at hw_121
    obtain ⟨hP, hD⟩ := va_join (wr := []) (w1 := [(h0, .inr (12, mG q i_taped i_size i_sort i_what i_at i_end i_worth i_faultKind i_faultPlace i_got i_worked (nI dl) i_isPlanned u_122 u_123)), (q 51, .inl (E.2.1 0, 512, .inl a_least)), (q 55, .inl (E.2.1 0, 4, .inl u_124)), (q 54, .inl (E.2.1 0, 7, .inl u_125)), (q 53, .inl (E.2.1 0, 7, .inl u_126))]) hP hD [0, 1, 2, 3, 4] [] rfl rfl (by decide) (by decide) hk1 hFc hP1 hD1
    generalize H1 = H at hP hS ⊢
    have hP : va_P E.1 vwCl [(h0, .inr (12, mG q i_taped i_size i_sort i_what i_at i_end i_worth i_faultKind i_faultPlace i_got i_worked (nI dl) i_isPlanned u_122 u_123)), (q 51, .inl (E.2.1 0, 512, .inl a_least)), (q 55, .inl (E.2.1 0, 4, .inl u_124)), (q 54, .inl (E.2.1 0, 7, .inl u_125)), (q 53, .inl (E.2.1 0, 7, .inl u_126))] H := hP
    have hD : va_D A [(h0, .inr (12, mG q i_taped i_size i_sort i_what i_at i_end i_worth i_faultKind i_faultPlace i_got i_worked (nI dl) i_isPlanned u_122 u_123)), (q 51, .inl (E.2.1 0, 512, .inl a_least)), (q 55, .inl (E.2.1 0, 4, .inl u_124)), (q 54, .inl (E.2.1 0, 7, .inl u_125)), (q 53, .inl (E.2.1 0, 7, .inl u_126))] := hD
    have hP9 := hP.sub (ws' := [(h0, .inr (12, mG q i_taped i_size i_sort i_what i_at i_end i_worth i_faultKind i_faultPlace i_got i_worked (nI dl) i_isPlanned u_122 u_123)), (q 51, .inl (E.2.1 0, 512, .inl a_least)), (q 55, .inl (E.2.1 0, 4, .inl u_124)), (q 54, .inl (E.2.1 0, 7, .inl u_125)), (q 53, .inl (E.2.1 0, 7, .inl u_126))]) [0, 1, 2, 3, 4] rfl
    have hD9 := hD.sub (ws' := [(h0, .inr (12, mG q i_taped i_size i_sort i_what i_at i_end i_worth i_faultKind i_faultPlace i_got i_worked (nI dl) i_isPlanned u_122 u_123)), (q 51, .inl (E.2.1 0, 512, .inl a_least)), (q 55, .inl (E.2.1 0, 4, .inl u_124)), (q 54, .inl (E.2.1 0, 7, .inl u_125)), (q 53, .inl (E.2.1 0, 7, .inl u_126))]) [0, 1, 2, 3, 4] (by decide) rfl
    exact W.vret hx hb hr (fun t ht hW => ⟨⟨(u_122, u_123, u_124, u_125, u_126), rfl, trivial, hf_127, by rw [ht]; exact hP9, hD9⟩, hS.F ht⟩) hS.2.2 dX12_give_237
  · refine lv_iconst (v := 0) hx hb dX12_give_8 (by decide) ?_
    refine lv_istore_n (lv' := [(2, .int 0), (0, .ref h0), (1, .int 5)]) hx hb dX12_give_9 rfl hl (by decide) rfl (fun ls hl => ?_)
    refine lv_iconst (v := 0) hx hb dX12_give_10 (by decide) ?_
    refine lv_istore_n (lv' := [(3, .int 0), (2, .int 0), (0, .ref h0), (1, .int 5)]) hx hb dX12_give_11 rfl hl (by decide) rfl (fun ls hl => ?_)
    refine lv_iconst (v := 0) hx hb dX12_give_12 (by decide) ?_
    refine lv_istore (lv' := [(4, .int 0), (3, .int 0), (2, .int 0), (0, .ref h0), (1, .int 5)]) hx hb dX12_give_13 hl (by decide) rfl (fun ls hl => ?_)
    refine lv_iload hx hb dX12_give_15 (lv_at hl 0 rfl) ?_
    refine lv_iconst (v := 4) hx hb dX12_give_17 (by decide) ?_
    refine lv_icmp_ge (tgt := 102) hx hb dX12_give_18 (by decide) (fun c9 => absurd c9 (by decide)) (fun _ => ?_)
    refine lv_aload_n hx hb dX12_give_21 rfl (lv_at hl 3 rfl) ?_
    refine va_get (D := E.1) (ci := 12) (v := .ref (q 51)) (C := RX12) (T := TX12) (N := 59) hx hb hts inX12 hown hK hP 0 rfl rfl 51 (by decide) fl130 (fun _ h9 => h9) rfl dX12_give_22 ?_
    refine lv_sipush (v := 128) hx hb dX12_give_25 (by decide) ?_
    refine lv_iload hx hb dX12_give_28 (lv_at hl 0 rfl) ?_
    refine lv_imul hx hb dX12_give_30 ?_
    refine lv_topi (fun x_128 ex_128 => ?_)
    obtain rfl : x_128 = 0 := ex_128.trans (by decide +kernel)
    refine lv_aload_n hx hb dX12_give_31 rfl (lv_at hl 3 rfl) ?_
    refine va_get (D := E.1) (ci := 12) (v := .ref (q 55)) (C := RX12) (T := TX12) (N := 59) hx hb hts inX12 hown hK hP 0 rfl rfl 55 (by decide) fl142 (fun _ h9 => h9) rfl dX12_give_32 ?_
    refine lv_iload hx hb dX12_give_35 (lv_at hl 0 rfl) ?_
    refine va_iald hx hb hK hP 2 0 rfl rfl (show vp_in 0 4 from by unfold vp_in; decide) dX12_give_37 ?_
    refine lv_topi (fun x_129 ex_129 => ?_)
    have hv_130 : inR x_129 0 127 = true := by rw [ex_129]; exact hI_sets _ (vin_cl (show vp_in 0 4 from by unfold vp_in; decide))
    obtain ⟨w_131, hw_132, ew_133⟩ := inR_nI (n := 127) (by decide) hv_130
    subst ew_133
    refine lv_iadd hx hb dX12_give_38 ?_
    refine lv_topi (fun x_134 ex_134 => ?_)
    obtain rfl : x_134 = nI (0 + w_131) := ex_134.trans (nI_add 0 w_131)
    have hi_135 : vp_in (nI (0 + w_131)) 512 := vp_in_nI (by omega) (by decide)
    refine va_iald hx hb hK hP 1 0 rfl rfl hi_135 dX12_give_39 ?_
    refine lv_topi (fun x_136 ex_136 => ?_)
    refine lv_iconst (v := (-1)) hx hb dX12_give_40 (by decide) ?_
    refine lv_icmp_ne (tgt := 45) hx hb dX12_give_41 (by decide) (fun c_137 => ?_) (fun c_137 => ?_)
    · refine lv_iload_n hx hb dX12_give_45 rfl (lv_at hl 1 rfl) ?_
      refine lv_aload_n hx hb dX12_give_46 rfl (lv_at hl 3 rfl) ?_
      refine va_get (D := E.1) (ci := 12) (v := .ref (q 51)) (C := RX12) (T := TX12) (N := 59) hx hb hts inX12 hown hK hP 0 rfl rfl 51 (by decide) fl130 (fun _ h9 => h9) rfl dX12_give_47 ?_
      refine lv_sipush (v := 128) hx hb dX12_give_50 (by decide) ?_
      refine lv_iload hx hb dX12_give_53 (lv_at hl 0 rfl) ?_
      refine lv_imul hx hb dX12_give_55 ?_
      refine lv_topi (fun x_138 ex_138 => ?_)
      obtain rfl : x_138 = 0 := ex_138.trans (by decide +kernel)
      refine lv_aload_n hx hb dX12_give_56 rfl (lv_at hl 3 rfl) ?_
      refine va_get (D := E.1) (ci := 12) (v := .ref (q 55)) (C := RX12) (T := TX12) (N := 59) hx hb hts inX12 hown hK hP 0 rfl rfl 55 (by decide) fl142 (fun _ h9 => h9) rfl dX12_give_57 ?_
      refine lv_iload hx hb dX12_give_60 (lv_at hl 0 rfl) ?_
      refine va_iald hx hb hK hP 2 0 rfl rfl (show vp_in 0 4 from by unfold vp_in; decide) dX12_give_62 ?_
      refine lv_topi (fun x_139 ex_139 => ?_)
      obtain rfl : x_139 = nI w_131 := ex_139.trans ex_129.symm
      refine lv_iadd hx hb dX12_give_63 ?_
      refine lv_topi (fun x_140 ex_140 => ?_)
      obtain rfl : x_140 = nI (0 + w_131) := ex_140.trans (nI_add 0 w_131)
      refine va_iald hx hb hK hP 1 0 rfl rfl hi_135 dX12_give_64 ?_
      refine lv_topi (fun x_141 ex_141 => ?_)
      refine lv_iadd hx hb dX12_give_65 ?_
      refine lv_topi (fun x_142 ex_142 => ?_)
      refine lv_istore_n (lv' := [(3, .int x_142), (4, .int 0), (2, .int 0), (0, .ref h0), (1, .int 5)]) hx hb dX12_give_66 rfl hl (by decide) rfl (fun ls hl => ?_)
      refine lv_aload_n hx hb dX12_give_67 rfl (lv_at hl 3 rfl) ?_
      refine va_get (D := E.1) (ci := 12) (v := .ref (q 55)) (C := RX12) (T := TX12) (N := 59) hx hb hts inX12 hown hK hP 0 rfl rfl 55 (by decide) fl142 (fun _ h9 => h9) rfl dX12_give_68 ?_
      refine lv_iload hx hb dX12_give_71 (lv_at hl 1 rfl) ?_
      refine va_iald hx hb hK hP 2 0 rfl rfl (show vp_in 0 4 from by unfold vp_in; decide) dX12_give_73 ?_
      refine lv_topi (fun x_143 ex_143 => ?_)
      obtain rfl : x_143 = nI w_131 := ex_143.trans ex_129.symm
      refine lv_istore (lv' := [(5, .int (nI w_131)), (3, .int x_142), (4, .int 0), (2, .int 0), (0, .ref h0), (1, .int 5)]) hx hb dX12_give_74 hl (by decide) rfl (fun ls hl => ?_)
      have hPl := hP.sub (ws' := [(h0, .inr (12, mG q i_taped i_size i_sort i_what i_at i_end i_worth i_faultKind i_faultPlace i_got i_worked (nI dl) i_isPlanned i_bestDone i_bestCost)), (q 51, .inl (E.2.1 0, 512, .inl a_least)), (q 55, .inl (E.2.1 0, 4, .inl a_sets)), (q 54, .inl (E.2.1 0, 7, .inl a_bestGiven)), (q 53, .inl (E.2.1 0, 7, .inl a_given))]) [0, 1, 2, 3, 4] rfl
      have hDl := hD.sub (ws' := [(h0, .inr (12, mG q i_taped i_size i_sort i_what i_at i_end i_worth i_faultKind i_faultPlace i_got i_worked (nI dl) i_isPlanned i_bestDone i_bestCost)), (q 51, .inl (E.2.1 0, 512, .inl a_least)), (q 55, .inl (E.2.1 0, 4, .inl a_sets)), (q 54, .inl (E.2.1 0, 7, .inl a_bestGiven)), (q 53, .inl (E.2.1 0, 7, .inl a_given))]) [0, 1, 2, 3, 4] (by decide) rfl
      refine lm_bits E h0 q i_taped i_size i_sort i_what i_at i_end i_worth i_faultKind i_faultPlace i_got i_worked i_isPlanned i_bestDone i_bestCost dl x_142 0 ([(q 51, .inl (E.2.1 0, 512, .inl a_least)), (q 55, .inl (E.2.1 0, 4, .inl a_sets)), (q 54, .inl (E.2.1 0, 7, .inl a_bestGiven)), (q 53, .inl (E.2.1 0, 7, .inl a_given))]) hx hb hml hown hts hkn hst hA  (fun n_144 H locs ls  hP hD hS hl => ?_) (w_131 + 1) w_131 0 _ _ _ (Nat.lt_succ_self _) hPl hDl hS (lv_sub hl [4, 3, 1, 2, 0] rfl)
      have hP : va_P E.1 vwCl [(h0, .inr (12, mG q i_taped i_size i_sort i_what i_at i_end i_worth i_faultKind i_faultPlace i_got i_worked (nI dl) i_isPlanned i_bestDone i_bestCost)), (q 51, .inl (E.2.1 0, 512, .inl a_least)), (q 55, .inl (E.2.1 0, 4, .inl a_sets)), (q 54, .inl (E.2.1 0, 7, .inl a_bestGiven)), (q 53, .inl (E.2.1 0, 7, .inl a_given))] H := hP
      have hD : va_D A [(h0, .inr (12, mG q i_taped i_size i_sort i_what i_at i_end i_worth i_faultKind i_faultPlace i_got i_worked (nI dl) i_isPlanned i_bestDone i_bestCost)), (q 51, .inl (E.2.1 0, 512, .inl a_least)), (q 55, .inl (E.2.1 0, 4, .inl a_sets)), (q 54, .inl (E.2.1 0, 7, .inl a_bestGiven)), (q 53, .inl (E.2.1 0, 7, .inl a_given))] := hD
      refine lv_iinc (v := 1) (lv' := [(4, .int 1), (0, .ref h0), (2, .int n_144), (3, .int x_142)]) hx hb dX12_give_96 hl (k := 3) rfl (by decide) (by decide) rfl (fun ls hl => ?_)
      refine lv_goto (tgt := 15) hx hb dX12_give_99 (by decide) ?_
      refine lv_iload hx hb dX12_give_15 (lv_at hl 0 rfl) ?_
      refine lv_iconst (v := 4) hx hb dX12_give_17 (by decide) ?_
      refine lv_icmp_ge (tgt := 102) hx hb dX12_give_18 (by decide) (fun c9 => absurd c9 (by decide)) (fun _ => ?_)
      refine lv_aload_n hx hb dX12_give_21 rfl (lv_at hl 1 rfl) ?_
      refine va_get (D := E.1) (ci := 12) (v := .ref (q 51)) (C := RX12) (T := TX12) (N := 59) hx hb hts inX12 hown hK hP 0 rfl rfl 51 (by decide) fl130 (fun _ h9 => h9) rfl dX12_give_22 ?_
      refine lv_sipush (v := 128) hx hb dX12_give_25 (by decide) ?_
      refine lv_iload hx hb dX12_give_28 (lv_at hl 0 rfl) ?_
      refine lv_imul hx hb dX12_give_30 ?_
      refine lv_topi (fun x_145 ex_145 => ?_)
      obtain rfl : x_145 = 128 := ex_145.trans (by decide +kernel)
      refine lv_aload_n hx hb dX12_give_31 rfl (lv_at hl 1 rfl) ?_
      refine va_get (D := E.1) (ci := 12) (v := .ref (q 55)) (C := RX12) (T := TX12) (N := 59) hx hb hts inX12 hown hK hP 0 rfl rfl 55 (by decide) fl142 (fun _ h9 => h9) rfl dX12_give_32 ?_
      refine lv_iload hx hb dX12_give_35 (lv_at hl 0 rfl) ?_
      refine va_iald hx hb hK hP 2 0 rfl rfl (show vp_in 1 4 from by unfold vp_in; decide) dX12_give_37 ?_
      refine lv_topi (fun x_146 ex_146 => ?_)
      have hv_147 : inR x_146 0 127 = true := by rw [ex_146]; exact hI_sets _ (vin_cl (show vp_in 1 4 from by unfold vp_in; decide))
      obtain ⟨w_148, hw_149, ew_150⟩ := inR_nI (n := 127) (by decide) hv_147
      subst ew_150
      refine lv_iadd hx hb dX12_give_38 ?_
      refine lv_topi (fun x_151 ex_151 => ?_)
      obtain rfl : x_151 = nI (128 + w_148) := ex_151.trans (nI_add 128 w_148)
      have hi_152 : vp_in (nI (128 + w_148)) 512 := vp_in_nI (by omega) (by decide)
      refine va_iald hx hb hK hP 1 0 rfl rfl hi_152 dX12_give_39 ?_
      refine lv_topi (fun x_153 ex_153 => ?_)
      refine lv_iconst (v := (-1)) hx hb dX12_give_40 (by decide) ?_
      refine lv_icmp_ne (tgt := 45) hx hb dX12_give_41 (by decide) (fun c_154 => ?_) (fun c_154 => ?_)
      · refine lv_iload_n hx hb dX12_give_45 rfl (lv_at hl 3 rfl) ?_
        refine lv_aload_n hx hb dX12_give_46 rfl (lv_at hl 1 rfl) ?_
        refine va_get (D := E.1) (ci := 12) (v := .ref (q 51)) (C := RX12) (T := TX12) (N := 59) hx hb hts inX12 hown hK hP 0 rfl rfl 51 (by decide) fl130 (fun _ h9 => h9) rfl dX12_give_47 ?_
        refine lv_sipush (v := 128) hx hb dX12_give_50 (by decide) ?_
        refine lv_iload hx hb dX12_give_53 (lv_at hl 0 rfl) ?_
        refine lv_imul hx hb dX12_give_55 ?_
        refine lv_topi (fun x_155 ex_155 => ?_)
        obtain rfl : x_155 = 128 := ex_155.trans (by decide +kernel)
        refine lv_aload_n hx hb dX12_give_56 rfl (lv_at hl 1 rfl) ?_
        refine va_get (D := E.1) (ci := 12) (v := .ref (q 55)) (C := RX12) (T := TX12) (N := 59) hx hb hts inX12 hown hK hP 0 rfl rfl 55 (by decide) fl142 (fun _ h9 => h9) rfl dX12_give_57 ?_
        refine lv_iload hx hb dX12_give_60 (lv_at hl 0 rfl) ?_
        refine va_iald hx hb hK hP 2 0 rfl rfl (show vp_in 1 4 from by unfold vp_in; decide) dX12_give_62 ?_
        refine lv_topi (fun x_156 ex_156 => ?_)
        obtain rfl : x_156 = nI w_148 := ex_156.trans ex_146.symm
        refine lv_iadd hx hb dX12_give_63 ?_
        refine lv_topi (fun x_157 ex_157 => ?_)
        obtain rfl : x_157 = nI (128 + w_148) := ex_157.trans (nI_add 128 w_148)
        refine va_iald hx hb hK hP 1 0 rfl rfl hi_152 dX12_give_64 ?_
        refine lv_topi (fun x_158 ex_158 => ?_)
        refine lv_iadd hx hb dX12_give_65 ?_
        refine lv_topi (fun x_159 ex_159 => ?_)
        refine lv_istore_n (lv' := [(3, .int x_159), (4, .int 1), (0, .ref h0), (2, .int n_144)]) hx hb dX12_give_66 rfl hl (by decide) rfl (fun ls hl => ?_)
        refine lv_aload_n hx hb dX12_give_67 rfl (lv_at hl 2 rfl) ?_
        refine va_get (D := E.1) (ci := 12) (v := .ref (q 55)) (C := RX12) (T := TX12) (N := 59) hx hb hts inX12 hown hK hP 0 rfl rfl 55 (by decide) fl142 (fun _ h9 => h9) rfl dX12_give_68 ?_
        refine lv_iload hx hb dX12_give_71 (lv_at hl 1 rfl) ?_
        refine va_iald hx hb hK hP 2 0 rfl rfl (show vp_in 1 4 from by unfold vp_in; decide) dX12_give_73 ?_
        refine lv_topi (fun x_160 ex_160 => ?_)
        obtain rfl : x_160 = nI w_148 := ex_160.trans ex_146.symm
        refine lv_istore (lv' := [(5, .int (nI w_148)), (3, .int x_159), (4, .int 1), (0, .ref h0), (2, .int n_144)]) hx hb dX12_give_74 hl (by decide) rfl (fun ls hl => ?_)
        have hPl := hP.sub (ws' := [(h0, .inr (12, mG q i_taped i_size i_sort i_what i_at i_end i_worth i_faultKind i_faultPlace i_got i_worked (nI dl) i_isPlanned i_bestDone i_bestCost)), (q 51, .inl (E.2.1 0, 512, .inl a_least)), (q 55, .inl (E.2.1 0, 4, .inl a_sets)), (q 54, .inl (E.2.1 0, 7, .inl a_bestGiven)), (q 53, .inl (E.2.1 0, 7, .inl a_given))]) [0, 1, 2, 3, 4] rfl
        have hDl := hD.sub (ws' := [(h0, .inr (12, mG q i_taped i_size i_sort i_what i_at i_end i_worth i_faultKind i_faultPlace i_got i_worked (nI dl) i_isPlanned i_bestDone i_bestCost)), (q 51, .inl (E.2.1 0, 512, .inl a_least)), (q 55, .inl (E.2.1 0, 4, .inl a_sets)), (q 54, .inl (E.2.1 0, 7, .inl a_bestGiven)), (q 53, .inl (E.2.1 0, 7, .inl a_given))]) [0, 1, 2, 3, 4] (by decide) rfl
        refine lm_bits E h0 q i_taped i_size i_sort i_what i_at i_end i_worth i_faultKind i_faultPlace i_got i_worked i_isPlanned i_bestDone i_bestCost dl x_159 1 ([(q 51, .inl (E.2.1 0, 512, .inl a_least)), (q 55, .inl (E.2.1 0, 4, .inl a_sets)), (q 54, .inl (E.2.1 0, 7, .inl a_bestGiven)), (q 53, .inl (E.2.1 0, 7, .inl a_given))]) hx hb hml hown hts hkn hst hA  (fun n_161 H locs ls  hP hD hS hl => ?_) (w_148 + 1) w_148 n_144 _ _ _ (Nat.lt_succ_self _) hPl hDl hS (lv_sub hl [3, 4, 1, 2, 0] rfl)
        have hP : va_P E.1 vwCl [(h0, .inr (12, mG q i_taped i_size i_sort i_what i_at i_end i_worth i_faultKind i_faultPlace i_got i_worked (nI dl) i_isPlanned i_bestDone i_bestCost)), (q 51, .inl (E.2.1 0, 512, .inl a_least)), (q 55, .inl (E.2.1 0, 4, .inl a_sets)), (q 54, .inl (E.2.1 0, 7, .inl a_bestGiven)), (q 53, .inl (E.2.1 0, 7, .inl a_given))] H := hP
        have hD : va_D A [(h0, .inr (12, mG q i_taped i_size i_sort i_what i_at i_end i_worth i_faultKind i_faultPlace i_got i_worked (nI dl) i_isPlanned i_bestDone i_bestCost)), (q 51, .inl (E.2.1 0, 512, .inl a_least)), (q 55, .inl (E.2.1 0, 4, .inl a_sets)), (q 54, .inl (E.2.1 0, 7, .inl a_bestGiven)), (q 53, .inl (E.2.1 0, 7, .inl a_given))] := hD
        refine lv_iinc (v := 2) (lv' := [(4, .int 2), (0, .ref h0), (2, .int n_161), (3, .int x_159)]) hx hb dX12_give_96 hl (k := 3) rfl (by decide) (by decide) rfl (fun ls hl => ?_)
        refine lv_goto (tgt := 15) hx hb dX12_give_99 (by decide) ?_
        refine lv_iload hx hb dX12_give_15 (lv_at hl 0 rfl) ?_
        refine lv_iconst (v := 4) hx hb dX12_give_17 (by decide) ?_
        refine lv_icmp_ge (tgt := 102) hx hb dX12_give_18 (by decide) (fun c9 => absurd c9 (by decide)) (fun _ => ?_)
        refine lv_aload_n hx hb dX12_give_21 rfl (lv_at hl 1 rfl) ?_
        refine va_get (D := E.1) (ci := 12) (v := .ref (q 51)) (C := RX12) (T := TX12) (N := 59) hx hb hts inX12 hown hK hP 0 rfl rfl 51 (by decide) fl130 (fun _ h9 => h9) rfl dX12_give_22 ?_
        refine lv_sipush (v := 128) hx hb dX12_give_25 (by decide) ?_
        refine lv_iload hx hb dX12_give_28 (lv_at hl 0 rfl) ?_
        refine lv_imul hx hb dX12_give_30 ?_
        refine lv_topi (fun x_162 ex_162 => ?_)
        obtain rfl : x_162 = 256 := ex_162.trans (by decide +kernel)
        refine lv_aload_n hx hb dX12_give_31 rfl (lv_at hl 1 rfl) ?_
        refine va_get (D := E.1) (ci := 12) (v := .ref (q 55)) (C := RX12) (T := TX12) (N := 59) hx hb hts inX12 hown hK hP 0 rfl rfl 55 (by decide) fl142 (fun _ h9 => h9) rfl dX12_give_32 ?_
        refine lv_iload hx hb dX12_give_35 (lv_at hl 0 rfl) ?_
        refine va_iald hx hb hK hP 2 0 rfl rfl (show vp_in 2 4 from by unfold vp_in; decide) dX12_give_37 ?_
        refine lv_topi (fun x_163 ex_163 => ?_)
        have hv_164 : inR x_163 0 127 = true := by rw [ex_163]; exact hI_sets _ (vin_cl (show vp_in 2 4 from by unfold vp_in; decide))
        obtain ⟨w_165, hw_166, ew_167⟩ := inR_nI (n := 127) (by decide) hv_164
        subst ew_167
        refine lv_iadd hx hb dX12_give_38 ?_
        refine lv_topi (fun x_168 ex_168 => ?_)
        obtain rfl : x_168 = nI (256 + w_165) := ex_168.trans (nI_add 256 w_165)
        have hi_169 : vp_in (nI (256 + w_165)) 512 := vp_in_nI (by omega) (by decide)
        refine va_iald hx hb hK hP 1 0 rfl rfl hi_169 dX12_give_39 ?_
        refine lv_topi (fun x_170 ex_170 => ?_)
        refine lv_iconst (v := (-1)) hx hb dX12_give_40 (by decide) ?_
        refine lv_icmp_ne (tgt := 45) hx hb dX12_give_41 (by decide) (fun c_171 => ?_) (fun c_171 => ?_)
        · refine lv_iload_n hx hb dX12_give_45 rfl (lv_at hl 3 rfl) ?_
          refine lv_aload_n hx hb dX12_give_46 rfl (lv_at hl 1 rfl) ?_
          refine va_get (D := E.1) (ci := 12) (v := .ref (q 51)) (C := RX12) (T := TX12) (N := 59) hx hb hts inX12 hown hK hP 0 rfl rfl 51 (by decide) fl130 (fun _ h9 => h9) rfl dX12_give_47 ?_
          refine lv_sipush (v := 128) hx hb dX12_give_50 (by decide) ?_
          refine lv_iload hx hb dX12_give_53 (lv_at hl 0 rfl) ?_
          refine lv_imul hx hb dX12_give_55 ?_
          refine lv_topi (fun x_172 ex_172 => ?_)
          obtain rfl : x_172 = 256 := ex_172.trans (by decide +kernel)
          refine lv_aload_n hx hb dX12_give_56 rfl (lv_at hl 1 rfl) ?_
          refine va_get (D := E.1) (ci := 12) (v := .ref (q 55)) (C := RX12) (T := TX12) (N := 59) hx hb hts inX12 hown hK hP 0 rfl rfl 55 (by decide) fl142 (fun _ h9 => h9) rfl dX12_give_57 ?_
          refine lv_iload hx hb dX12_give_60 (lv_at hl 0 rfl) ?_
          refine va_iald hx hb hK hP 2 0 rfl rfl (show vp_in 2 4 from by unfold vp_in; decide) dX12_give_62 ?_
          refine lv_topi (fun x_173 ex_173 => ?_)
          obtain rfl : x_173 = nI w_165 := ex_173.trans ex_163.symm
          refine lv_iadd hx hb dX12_give_63 ?_
          refine lv_topi (fun x_174 ex_174 => ?_)
          obtain rfl : x_174 = nI (256 + w_165) := ex_174.trans (nI_add 256 w_165)
          refine va_iald hx hb hK hP 1 0 rfl rfl hi_169 dX12_give_64 ?_
          refine lv_topi (fun x_175 ex_175 => ?_)
          refine lv_iadd hx hb dX12_give_65 ?_
          refine lv_topi (fun x_176 ex_176 => ?_)
          refine lv_istore_n (lv' := [(3, .int x_176), (4, .int 2), (0, .ref h0), (2, .int n_161)]) hx hb dX12_give_66 rfl hl (by decide) rfl (fun ls hl => ?_)
          refine lv_aload_n hx hb dX12_give_67 rfl (lv_at hl 2 rfl) ?_
          refine va_get (D := E.1) (ci := 12) (v := .ref (q 55)) (C := RX12) (T := TX12) (N := 59) hx hb hts inX12 hown hK hP 0 rfl rfl 55 (by decide) fl142 (fun _ h9 => h9) rfl dX12_give_68 ?_
          refine lv_iload hx hb dX12_give_71 (lv_at hl 1 rfl) ?_
          refine va_iald hx hb hK hP 2 0 rfl rfl (show vp_in 2 4 from by unfold vp_in; decide) dX12_give_73 ?_
          refine lv_topi (fun x_177 ex_177 => ?_)
          obtain rfl : x_177 = nI w_165 := ex_177.trans ex_163.symm
          refine lv_istore (lv' := [(5, .int (nI w_165)), (3, .int x_176), (4, .int 2), (0, .ref h0), (2, .int n_161)]) hx hb dX12_give_74 hl (by decide) rfl (fun ls hl => ?_)
          have hPl := hP.sub (ws' := [(h0, .inr (12, mG q i_taped i_size i_sort i_what i_at i_end i_worth i_faultKind i_faultPlace i_got i_worked (nI dl) i_isPlanned i_bestDone i_bestCost)), (q 51, .inl (E.2.1 0, 512, .inl a_least)), (q 55, .inl (E.2.1 0, 4, .inl a_sets)), (q 54, .inl (E.2.1 0, 7, .inl a_bestGiven)), (q 53, .inl (E.2.1 0, 7, .inl a_given))]) [0, 1, 2, 3, 4] rfl
          have hDl := hD.sub (ws' := [(h0, .inr (12, mG q i_taped i_size i_sort i_what i_at i_end i_worth i_faultKind i_faultPlace i_got i_worked (nI dl) i_isPlanned i_bestDone i_bestCost)), (q 51, .inl (E.2.1 0, 512, .inl a_least)), (q 55, .inl (E.2.1 0, 4, .inl a_sets)), (q 54, .inl (E.2.1 0, 7, .inl a_bestGiven)), (q 53, .inl (E.2.1 0, 7, .inl a_given))]) [0, 1, 2, 3, 4] (by decide) rfl
          refine lm_bits E h0 q i_taped i_size i_sort i_what i_at i_end i_worth i_faultKind i_faultPlace i_got i_worked i_isPlanned i_bestDone i_bestCost dl x_176 2 ([(q 51, .inl (E.2.1 0, 512, .inl a_least)), (q 55, .inl (E.2.1 0, 4, .inl a_sets)), (q 54, .inl (E.2.1 0, 7, .inl a_bestGiven)), (q 53, .inl (E.2.1 0, 7, .inl a_given))]) hx hb hml hown hts hkn hst hA  (fun n_178 H locs ls  hP hD hS hl => ?_) (w_165 + 1) w_165 n_161 _ _ _ (Nat.lt_succ_self _) hPl hDl hS (lv_sub hl [3, 4, 1, 2, 0] rfl)
          have hP : va_P E.1 vwCl [(h0, .inr (12, mG q i_taped i_size i_sort i_what i_at i_end i_worth i_faultKind i_faultPlace i_got i_worked (nI dl) i_isPlanned i_bestDone i_bestCost)), (q 51, .inl (E.2.1 0, 512, .inl a_least)), (q 55, .inl (E.2.1 0, 4, .inl a_sets)), (q 54, .inl (E.2.1 0, 7, .inl a_bestGiven)), (q 53, .inl (E.2.1 0, 7, .inl a_given))] H := hP
          have hD : va_D A [(h0, .inr (12, mG q i_taped i_size i_sort i_what i_at i_end i_worth i_faultKind i_faultPlace i_got i_worked (nI dl) i_isPlanned i_bestDone i_bestCost)), (q 51, .inl (E.2.1 0, 512, .inl a_least)), (q 55, .inl (E.2.1 0, 4, .inl a_sets)), (q 54, .inl (E.2.1 0, 7, .inl a_bestGiven)), (q 53, .inl (E.2.1 0, 7, .inl a_given))] := hD
          refine lv_iinc (v := 3) (lv' := [(4, .int 3), (0, .ref h0), (2, .int n_178), (3, .int x_176)]) hx hb dX12_give_96 hl (k := 3) rfl (by decide) (by decide) rfl (fun ls hl => ?_)
          refine lv_goto (tgt := 15) hx hb dX12_give_99 (by decide) ?_
          refine lv_iload hx hb dX12_give_15 (lv_at hl 0 rfl) ?_
          refine lv_iconst (v := 4) hx hb dX12_give_17 (by decide) ?_
          refine lv_icmp_ge (tgt := 102) hx hb dX12_give_18 (by decide) (fun c9 => absurd c9 (by decide)) (fun _ => ?_)
          refine lv_aload_n hx hb dX12_give_21 rfl (lv_at hl 1 rfl) ?_
          refine va_get (D := E.1) (ci := 12) (v := .ref (q 51)) (C := RX12) (T := TX12) (N := 59) hx hb hts inX12 hown hK hP 0 rfl rfl 51 (by decide) fl130 (fun _ h9 => h9) rfl dX12_give_22 ?_
          refine lv_sipush (v := 128) hx hb dX12_give_25 (by decide) ?_
          refine lv_iload hx hb dX12_give_28 (lv_at hl 0 rfl) ?_
          refine lv_imul hx hb dX12_give_30 ?_
          refine lv_topi (fun x_179 ex_179 => ?_)
          obtain rfl : x_179 = 384 := ex_179.trans (by decide +kernel)
          refine lv_aload_n hx hb dX12_give_31 rfl (lv_at hl 1 rfl) ?_
          refine va_get (D := E.1) (ci := 12) (v := .ref (q 55)) (C := RX12) (T := TX12) (N := 59) hx hb hts inX12 hown hK hP 0 rfl rfl 55 (by decide) fl142 (fun _ h9 => h9) rfl dX12_give_32 ?_
          refine lv_iload hx hb dX12_give_35 (lv_at hl 0 rfl) ?_
          refine va_iald hx hb hK hP 2 0 rfl rfl (show vp_in 3 4 from by unfold vp_in; decide) dX12_give_37 ?_
          refine lv_topi (fun x_180 ex_180 => ?_)
          have hv_181 : inR x_180 0 127 = true := by rw [ex_180]; exact hI_sets _ (vin_cl (show vp_in 3 4 from by unfold vp_in; decide))
          obtain ⟨w_182, hw_183, ew_184⟩ := inR_nI (n := 127) (by decide) hv_181
          subst ew_184
          refine lv_iadd hx hb dX12_give_38 ?_
          refine lv_topi (fun x_185 ex_185 => ?_)
          obtain rfl : x_185 = nI (384 + w_182) := ex_185.trans (nI_add 384 w_182)
          have hi_186 : vp_in (nI (384 + w_182)) 512 := vp_in_nI (by omega) (by decide)
          refine va_iald hx hb hK hP 1 0 rfl rfl hi_186 dX12_give_39 ?_
          refine lv_topi (fun x_187 ex_187 => ?_)
          refine lv_iconst (v := (-1)) hx hb dX12_give_40 (by decide) ?_
          refine lv_icmp_ne (tgt := 45) hx hb dX12_give_41 (by decide) (fun c_188 => ?_) (fun c_188 => ?_)
          · refine lv_iload_n hx hb dX12_give_45 rfl (lv_at hl 3 rfl) ?_
            refine lv_aload_n hx hb dX12_give_46 rfl (lv_at hl 1 rfl) ?_
            refine va_get (D := E.1) (ci := 12) (v := .ref (q 51)) (C := RX12) (T := TX12) (N := 59) hx hb hts inX12 hown hK hP 0 rfl rfl 51 (by decide) fl130 (fun _ h9 => h9) rfl dX12_give_47 ?_
            refine lv_sipush (v := 128) hx hb dX12_give_50 (by decide) ?_
            refine lv_iload hx hb dX12_give_53 (lv_at hl 0 rfl) ?_
            refine lv_imul hx hb dX12_give_55 ?_
            refine lv_topi (fun x_189 ex_189 => ?_)
            obtain rfl : x_189 = 384 := ex_189.trans (by decide +kernel)
            refine lv_aload_n hx hb dX12_give_56 rfl (lv_at hl 1 rfl) ?_
            refine va_get (D := E.1) (ci := 12) (v := .ref (q 55)) (C := RX12) (T := TX12) (N := 59) hx hb hts inX12 hown hK hP 0 rfl rfl 55 (by decide) fl142 (fun _ h9 => h9) rfl dX12_give_57 ?_
            refine lv_iload hx hb dX12_give_60 (lv_at hl 0 rfl) ?_
            refine va_iald hx hb hK hP 2 0 rfl rfl (show vp_in 3 4 from by unfold vp_in; decide) dX12_give_62 ?_
            refine lv_topi (fun x_190 ex_190 => ?_)
            obtain rfl : x_190 = nI w_182 := ex_190.trans ex_180.symm
            refine lv_iadd hx hb dX12_give_63 ?_
            refine lv_topi (fun x_191 ex_191 => ?_)
            obtain rfl : x_191 = nI (384 + w_182) := ex_191.trans (nI_add 384 w_182)
            refine va_iald hx hb hK hP 1 0 rfl rfl hi_186 dX12_give_64 ?_
            refine lv_topi (fun x_192 ex_192 => ?_)
            refine lv_iadd hx hb dX12_give_65 ?_
            refine lv_topi (fun x_193 ex_193 => ?_)
            refine lv_istore_n (lv' := [(3, .int x_193), (4, .int 3), (0, .ref h0), (2, .int n_178)]) hx hb dX12_give_66 rfl hl (by decide) rfl (fun ls hl => ?_)
            refine lv_aload_n hx hb dX12_give_67 rfl (lv_at hl 2 rfl) ?_
            refine va_get (D := E.1) (ci := 12) (v := .ref (q 55)) (C := RX12) (T := TX12) (N := 59) hx hb hts inX12 hown hK hP 0 rfl rfl 55 (by decide) fl142 (fun _ h9 => h9) rfl dX12_give_68 ?_
            refine lv_iload hx hb dX12_give_71 (lv_at hl 1 rfl) ?_
            refine va_iald hx hb hK hP 2 0 rfl rfl (show vp_in 3 4 from by unfold vp_in; decide) dX12_give_73 ?_
            refine lv_topi (fun x_194 ex_194 => ?_)
            obtain rfl : x_194 = nI w_182 := ex_194.trans ex_180.symm
            refine lv_istore (lv' := [(5, .int (nI w_182)), (3, .int x_193), (4, .int 3), (0, .ref h0), (2, .int n_178)]) hx hb dX12_give_74 hl (by decide) rfl (fun ls hl => ?_)
            have hPl := hP.sub (ws' := [(h0, .inr (12, mG q i_taped i_size i_sort i_what i_at i_end i_worth i_faultKind i_faultPlace i_got i_worked (nI dl) i_isPlanned i_bestDone i_bestCost)), (q 51, .inl (E.2.1 0, 512, .inl a_least)), (q 55, .inl (E.2.1 0, 4, .inl a_sets)), (q 54, .inl (E.2.1 0, 7, .inl a_bestGiven)), (q 53, .inl (E.2.1 0, 7, .inl a_given))]) [0, 1, 2, 3, 4] rfl
            have hDl := hD.sub (ws' := [(h0, .inr (12, mG q i_taped i_size i_sort i_what i_at i_end i_worth i_faultKind i_faultPlace i_got i_worked (nI dl) i_isPlanned i_bestDone i_bestCost)), (q 51, .inl (E.2.1 0, 512, .inl a_least)), (q 55, .inl (E.2.1 0, 4, .inl a_sets)), (q 54, .inl (E.2.1 0, 7, .inl a_bestGiven)), (q 53, .inl (E.2.1 0, 7, .inl a_given))]) [0, 1, 2, 3, 4] (by decide) rfl
            refine lm_bits E h0 q i_taped i_size i_sort i_what i_at i_end i_worth i_faultKind i_faultPlace i_got i_worked i_isPlanned i_bestDone i_bestCost dl x_193 3 ([(q 51, .inl (E.2.1 0, 512, .inl a_least)), (q 55, .inl (E.2.1 0, 4, .inl a_sets)), (q 54, .inl (E.2.1 0, 7, .inl a_bestGiven)), (q 53, .inl (E.2.1 0, 7, .inl a_given))]) hx hb hml hown hts hkn hst hA  (fun n_195 H locs ls  hP hD hS hl => ?_) (w_182 + 1) w_182 n_178 _ _ _ (Nat.lt_succ_self _) hPl hDl hS (lv_sub hl [3, 4, 1, 2, 0] rfl)
            have hP : va_P E.1 vwCl [(h0, .inr (12, mG q i_taped i_size i_sort i_what i_at i_end i_worth i_faultKind i_faultPlace i_got i_worked (nI dl) i_isPlanned i_bestDone i_bestCost)), (q 51, .inl (E.2.1 0, 512, .inl a_least)), (q 55, .inl (E.2.1 0, 4, .inl a_sets)), (q 54, .inl (E.2.1 0, 7, .inl a_bestGiven)), (q 53, .inl (E.2.1 0, 7, .inl a_given))] H := hP
            have hD : va_D A [(h0, .inr (12, mG q i_taped i_size i_sort i_what i_at i_end i_worth i_faultKind i_faultPlace i_got i_worked (nI dl) i_isPlanned i_bestDone i_bestCost)), (q 51, .inl (E.2.1 0, 512, .inl a_least)), (q 55, .inl (E.2.1 0, 4, .inl a_sets)), (q 54, .inl (E.2.1 0, 7, .inl a_bestGiven)), (q 53, .inl (E.2.1 0, 7, .inl a_given))] := hD
            refine lv_iinc (v := 4) (lv' := [(4, .int 4), (0, .ref h0), (2, .int n_195), (3, .int x_193)]) hx hb dX12_give_96 hl (k := 3) rfl (by decide) (by decide) rfl (fun ls hl => ?_)
            refine lv_goto (tgt := 15) hx hb dX12_give_99 (by decide) ?_
            refine lv_iload hx hb dX12_give_15 (lv_at hl 0 rfl) ?_
            refine lv_iconst (v := 4) hx hb dX12_give_17 (by decide) ?_
            refine lv_icmp_ge (tgt := 102) hx hb dX12_give_18 (by decide) (fun _ => ?_) (fun c9 => absurd c9 (by decide))
            refine lv_iload_n hx hb dX12_give_102 rfl (lv_at hl 2 rfl) ?_
            refine lv_aload_n hx hb dX12_give_103 rfl (lv_at hl 1 rfl) ?_
            refine va_get (D := E.1) (ci := 12) (v := .int i_bestDone) (C := RX12) (T := TX12) (N := 59) hx hb hts inX12 hown hK hP 0 rfl rfl 57 (by decide) fl300 (fun _ h9 => h9) rfl dX12_give_104 ?_
            refine lv_icmp_lt (tgt := 126) hx hb dX12_give_107 (by decide) (fun c_196 => ?_) (fun c_196 => ?_)
            · have hP9 := hP.sub (ws' := [(h0, .inr (12, mG q i_taped i_size i_sort i_what i_at i_end i_worth i_faultKind i_faultPlace i_got i_worked (nI dl) i_isPlanned i_bestDone i_bestCost)), (q 51, .inl (E.2.1 0, 512, .inl a_least)), (q 55, .inl (E.2.1 0, 4, .inl a_sets)), (q 54, .inl (E.2.1 0, 7, .inl a_bestGiven)), (q 53, .inl (E.2.1 0, 7, .inl a_given))]) [0, 1, 2, 3, 4] rfl
              have hD9 := hD.sub (ws' := [(h0, .inr (12, mG q i_taped i_size i_sort i_what i_at i_end i_worth i_faultKind i_faultPlace i_got i_worked (nI dl) i_isPlanned i_bestDone i_bestCost)), (q 51, .inl (E.2.1 0, 512, .inl a_least)), (q 55, .inl (E.2.1 0, 4, .inl a_sets)), (q 54, .inl (E.2.1 0, 7, .inl a_bestGiven)), (q 53, .inl (E.2.1 0, 7, .inl a_given))]) [0, 1, 2, 3, 4] (by decide) rfl
              exact W.vret hx hb hr (fun t ht hW => ⟨⟨(i_bestDone, i_bestCost, a_sets, a_bestGiven, a_given), rfl, trivial, hI_sets, by rw [ht]; exact hP9, hD9⟩, hS.F ht⟩) hS.2.2 dX12_give_126
            · refine lv_iload_n hx hb dX12_give_110 rfl (lv_at hl 2 rfl) ?_
              refine lv_aload_n hx hb dX12_give_111 rfl (lv_at hl 1 rfl) ?_
              refine va_get (D := E.1) (ci := 12) (v := .int i_bestDone) (C := RX12) (T := TX12) (N := 59) hx hb hts inX12 hown hK hP 0 rfl rfl 57 (by decide) fl300 (fun _ h9 => h9) rfl dX12_give_112 ?_
              refine lv_icmp_ne (tgt := 127) hx hb dX12_give_115 (by decide) (fun c_197 => ?_) (fun c_197 => ?_)
              · refine lv_aload_n hx hb dX12_give_127 rfl (lv_at hl 1 rfl) ?_
                refine lv_iload_n hx hb dX12_give_128 rfl (lv_at hl 2 rfl) ?_
                refine va_put (D := E.1) (ci := 12) (v := .int n_195) (ty := .int) (C := RX12) (T := TX12) (N := 59) hx hb hts inX12 tyX12 tyX12_ok nmX12 hown hK hP hD hS 0 rfl rfl 57 (by decide) fl300 (fun _ h9 => h9) rfl (by decide +kernel) rfl rfl (Nat.le_of_ble_eq_true rfl) dX12_give_129 (fun H locs hP hD hS => ?_)
                have hP : va_P E.1 vwCl [(h0, .inr (12, mG q i_taped i_size i_sort i_what i_at i_end i_worth i_faultKind i_faultPlace i_got i_worked (nI dl) i_isPlanned n_195 i_bestCost)), (q 51, .inl (E.2.1 0, 512, .inl a_least)), (q 55, .inl (E.2.1 0, 4, .inl a_sets)), (q 54, .inl (E.2.1 0, 7, .inl a_bestGiven)), (q 53, .inl (E.2.1 0, 7, .inl a_given))] H := hP
                have hD : va_D A [(h0, .inr (12, mG q i_taped i_size i_sort i_what i_at i_end i_worth i_faultKind i_faultPlace i_got i_worked (nI dl) i_isPlanned n_195 i_bestCost)), (q 51, .inl (E.2.1 0, 512, .inl a_least)), (q 55, .inl (E.2.1 0, 4, .inl a_sets)), (q 54, .inl (E.2.1 0, 7, .inl a_bestGiven)), (q 53, .inl (E.2.1 0, 7, .inl a_given))] := hD
                refine lv_aload_n hx hb dX12_give_132 rfl (lv_at hl 1 rfl) ?_
                refine lv_iload_n hx hb dX12_give_133 rfl (lv_at hl 3 rfl) ?_
                refine va_put (D := E.1) (ci := 12) (v := .int x_193) (ty := .int) (C := RX12) (T := TX12) (N := 59) hx hb hts inX12 tyX12 tyX12_ok nmX12 hown hK hP hD hS 0 rfl rfl 58 (by decide) fl303 (fun _ h9 => h9) rfl (by decide +kernel) rfl rfl (Nat.le_of_ble_eq_true rfl) dX12_give_134 (fun H locs hP hD hS => ?_)
                have hP : va_P E.1 vwCl [(h0, .inr (12, mG q i_taped i_size i_sort i_what i_at i_end i_worth i_faultKind i_faultPlace i_got i_worked (nI dl) i_isPlanned n_195 x_193)), (q 51, .inl (E.2.1 0, 512, .inl a_least)), (q 55, .inl (E.2.1 0, 4, .inl a_sets)), (q 54, .inl (E.2.1 0, 7, .inl a_bestGiven)), (q 53, .inl (E.2.1 0, 7, .inl a_given))] H := hP
                have hD : va_D A [(h0, .inr (12, mG q i_taped i_size i_sort i_what i_at i_end i_worth i_faultKind i_faultPlace i_got i_worked (nI dl) i_isPlanned n_195 x_193)), (q 51, .inl (E.2.1 0, 512, .inl a_least)), (q 55, .inl (E.2.1 0, 4, .inl a_sets)), (q 54, .inl (E.2.1 0, 7, .inl a_bestGiven)), (q 53, .inl (E.2.1 0, 7, .inl a_given))] := hD
                refine lv_iconst (v := 0) hx hb dX12_give_137 (by decide) ?_
                refine lv_istore (lv' := [(4, .int 0), (0, .ref h0), (2, .int n_195), (3, .int x_193)]) hx hb dX12_give_138 hl (by decide) rfl (fun ls hl => ?_)
                have hPl := hP.sub (ws' := [(h0, .inr (12, mG q i_taped i_size i_sort i_what i_at i_end i_worth i_faultKind i_faultPlace i_got i_worked (nI dl) i_isPlanned n_195 x_193)), (q 53, .inl (E.2.1 0, 7, .inl a_given)), (q 54, .inl (E.2.1 0, 7, .inl a_bestGiven)), (q 51, .inl (E.2.1 0, 512, .inl a_least)), (q 55, .inl (E.2.1 0, 4, .inl a_sets))]) [0, 4, 3, 1, 2] rfl
                have hDl := hD.sub (ws' := [(h0, .inr (12, mG q i_taped i_size i_sort i_what i_at i_end i_worth i_faultKind i_faultPlace i_got i_worked (nI dl) i_isPlanned n_195 x_193)), (q 53, .inl (E.2.1 0, 7, .inl a_given)), (q 54, .inl (E.2.1 0, 7, .inl a_bestGiven)), (q 51, .inl (E.2.1 0, 512, .inl a_least)), (q 55, .inl (E.2.1 0, 4, .inl a_sets))]) [0, 4, 3, 1, 2] (by decide) rfl
                refine lm_copy E h0 q i_taped i_size i_sort i_what i_at i_end i_worth i_faultKind i_faultPlace i_got i_worked i_isPlanned n_195 x_193 dl a_given ([(q 51, .inl (E.2.1 0, 512, .inl a_least)), (q 55, .inl (E.2.1 0, 4, .inl a_sets))]) hx hb hml hown hts hkn hst hA (by omega) (fun n_198 H locs ls  hP hD hS hl => ?_) 9 0 a_bestGiven _ _ _ (by omega) (by omega) hPl hDl hS (lv_sub hl [1, 0] rfl)
                have hP : va_P E.1 vwCl [(h0, .inr (12, mG q i_taped i_size i_sort i_what i_at i_end i_worth i_faultKind i_faultPlace i_got i_worked (nI dl) i_isPlanned n_195 x_193)), (q 53, .inl (E.2.1 0, 7, .inl a_given)), (q 54, .inl (E.2.1 0, 7, .inl n_198)), (q 51, .inl (E.2.1 0, 512, .inl a_least)), (q 55, .inl (E.2.1 0, 4, .inl a_sets))] H := hP
                have hD : va_D A [(h0, .inr (12, mG q i_taped i_size i_sort i_what i_at i_end i_worth i_faultKind i_faultPlace i_got i_worked (nI dl) i_isPlanned n_195 x_193)), (q 53, .inl (E.2.1 0, 7, .inl a_given)), (q 54, .inl (E.2.1 0, 7, .inl n_198)), (q 51, .inl (E.2.1 0, 512, .inl a_least)), (q 55, .inl (E.2.1 0, 4, .inl a_sets))] := hD
                have hP9 := hP.sub (ws' := [(h0, .inr (12, mG q i_taped i_size i_sort i_what i_at i_end i_worth i_faultKind i_faultPlace i_got i_worked (nI dl) i_isPlanned n_195 x_193)), (q 51, .inl (E.2.1 0, 512, .inl a_least)), (q 55, .inl (E.2.1 0, 4, .inl a_sets)), (q 54, .inl (E.2.1 0, 7, .inl n_198)), (q 53, .inl (E.2.1 0, 7, .inl a_given))]) [0, 3, 4, 2, 1] rfl
                have hD9 := hD.sub (ws' := [(h0, .inr (12, mG q i_taped i_size i_sort i_what i_at i_end i_worth i_faultKind i_faultPlace i_got i_worked (nI dl) i_isPlanned n_195 x_193)), (q 51, .inl (E.2.1 0, 512, .inl a_least)), (q 55, .inl (E.2.1 0, 4, .inl a_sets)), (q 54, .inl (E.2.1 0, 7, .inl n_198)), (q 53, .inl (E.2.1 0, 7, .inl a_given))]) [0, 3, 4, 2, 1] (by decide) rfl
                exact W.vret hx hb hr (fun t ht hW => ⟨⟨(n_195, x_193, a_sets, n_198, a_given), rfl, trivial, hI_sets, by rw [ht]; exact hP9, hD9⟩, hS.F ht⟩) hS.2.2 dX12_give_169
              · refine lv_iload_n hx hb dX12_give_118 rfl (lv_at hl 3 rfl) ?_
                refine lv_aload_n hx hb dX12_give_119 rfl (lv_at hl 1 rfl) ?_
                refine va_get (D := E.1) (ci := 12) (v := .int i_bestCost) (C := RX12) (T := TX12) (N := 59) hx hb hts inX12 hown hK hP 0 rfl rfl 58 (by decide) fl303 (fun _ h9 => h9) rfl dX12_give_120 ?_
                refine lv_icmp_lt (tgt := 127) hx hb dX12_give_123 (by decide) (fun c_199 => ?_) (fun c_199 => ?_)
                · refine lv_aload_n hx hb dX12_give_127 rfl (lv_at hl 1 rfl) ?_
                  refine lv_iload_n hx hb dX12_give_128 rfl (lv_at hl 2 rfl) ?_
                  refine va_put (D := E.1) (ci := 12) (v := .int n_195) (ty := .int) (C := RX12) (T := TX12) (N := 59) hx hb hts inX12 tyX12 tyX12_ok nmX12 hown hK hP hD hS 0 rfl rfl 57 (by decide) fl300 (fun _ h9 => h9) rfl (by decide +kernel) rfl rfl (Nat.le_of_ble_eq_true rfl) dX12_give_129 (fun H locs hP hD hS => ?_)
                  have hP : va_P E.1 vwCl [(h0, .inr (12, mG q i_taped i_size i_sort i_what i_at i_end i_worth i_faultKind i_faultPlace i_got i_worked (nI dl) i_isPlanned n_195 i_bestCost)), (q 51, .inl (E.2.1 0, 512, .inl a_least)), (q 55, .inl (E.2.1 0, 4, .inl a_sets)), (q 54, .inl (E.2.1 0, 7, .inl a_bestGiven)), (q 53, .inl (E.2.1 0, 7, .inl a_given))] H := hP
                  have hD : va_D A [(h0, .inr (12, mG q i_taped i_size i_sort i_what i_at i_end i_worth i_faultKind i_faultPlace i_got i_worked (nI dl) i_isPlanned n_195 i_bestCost)), (q 51, .inl (E.2.1 0, 512, .inl a_least)), (q 55, .inl (E.2.1 0, 4, .inl a_sets)), (q 54, .inl (E.2.1 0, 7, .inl a_bestGiven)), (q 53, .inl (E.2.1 0, 7, .inl a_given))] := hD
                  refine lv_aload_n hx hb dX12_give_132 rfl (lv_at hl 1 rfl) ?_
                  refine lv_iload_n hx hb dX12_give_133 rfl (lv_at hl 3 rfl) ?_
                  refine va_put (D := E.1) (ci := 12) (v := .int x_193) (ty := .int) (C := RX12) (T := TX12) (N := 59) hx hb hts inX12 tyX12 tyX12_ok nmX12 hown hK hP hD hS 0 rfl rfl 58 (by decide) fl303 (fun _ h9 => h9) rfl (by decide +kernel) rfl rfl (Nat.le_of_ble_eq_true rfl) dX12_give_134 (fun H locs hP hD hS => ?_)
                  have hP : va_P E.1 vwCl [(h0, .inr (12, mG q i_taped i_size i_sort i_what i_at i_end i_worth i_faultKind i_faultPlace i_got i_worked (nI dl) i_isPlanned n_195 x_193)), (q 51, .inl (E.2.1 0, 512, .inl a_least)), (q 55, .inl (E.2.1 0, 4, .inl a_sets)), (q 54, .inl (E.2.1 0, 7, .inl a_bestGiven)), (q 53, .inl (E.2.1 0, 7, .inl a_given))] H := hP
                  have hD : va_D A [(h0, .inr (12, mG q i_taped i_size i_sort i_what i_at i_end i_worth i_faultKind i_faultPlace i_got i_worked (nI dl) i_isPlanned n_195 x_193)), (q 51, .inl (E.2.1 0, 512, .inl a_least)), (q 55, .inl (E.2.1 0, 4, .inl a_sets)), (q 54, .inl (E.2.1 0, 7, .inl a_bestGiven)), (q 53, .inl (E.2.1 0, 7, .inl a_given))] := hD
                  refine lv_iconst (v := 0) hx hb dX12_give_137 (by decide) ?_
                  refine lv_istore (lv' := [(4, .int 0), (0, .ref h0), (2, .int n_195), (3, .int x_193)]) hx hb dX12_give_138 hl (by decide) rfl (fun ls hl => ?_)
                  have hPl := hP.sub (ws' := [(h0, .inr (12, mG q i_taped i_size i_sort i_what i_at i_end i_worth i_faultKind i_faultPlace i_got i_worked (nI dl) i_isPlanned n_195 x_193)), (q 53, .inl (E.2.1 0, 7, .inl a_given)), (q 54, .inl (E.2.1 0, 7, .inl a_bestGiven)), (q 51, .inl (E.2.1 0, 512, .inl a_least)), (q 55, .inl (E.2.1 0, 4, .inl a_sets))]) [0, 4, 3, 1, 2] rfl
                  have hDl := hD.sub (ws' := [(h0, .inr (12, mG q i_taped i_size i_sort i_what i_at i_end i_worth i_faultKind i_faultPlace i_got i_worked (nI dl) i_isPlanned n_195 x_193)), (q 53, .inl (E.2.1 0, 7, .inl a_given)), (q 54, .inl (E.2.1 0, 7, .inl a_bestGiven)), (q 51, .inl (E.2.1 0, 512, .inl a_least)), (q 55, .inl (E.2.1 0, 4, .inl a_sets))]) [0, 4, 3, 1, 2] (by decide) rfl
                  refine lm_copy E h0 q i_taped i_size i_sort i_what i_at i_end i_worth i_faultKind i_faultPlace i_got i_worked i_isPlanned n_195 x_193 dl a_given ([(q 51, .inl (E.2.1 0, 512, .inl a_least)), (q 55, .inl (E.2.1 0, 4, .inl a_sets))]) hx hb hml hown hts hkn hst hA (by omega) (fun n_200 H locs ls  hP hD hS hl => ?_) 9 0 a_bestGiven _ _ _ (by omega) (by omega) hPl hDl hS (lv_sub hl [1, 0] rfl)
                  have hP : va_P E.1 vwCl [(h0, .inr (12, mG q i_taped i_size i_sort i_what i_at i_end i_worth i_faultKind i_faultPlace i_got i_worked (nI dl) i_isPlanned n_195 x_193)), (q 53, .inl (E.2.1 0, 7, .inl a_given)), (q 54, .inl (E.2.1 0, 7, .inl n_200)), (q 51, .inl (E.2.1 0, 512, .inl a_least)), (q 55, .inl (E.2.1 0, 4, .inl a_sets))] H := hP
                  have hD : va_D A [(h0, .inr (12, mG q i_taped i_size i_sort i_what i_at i_end i_worth i_faultKind i_faultPlace i_got i_worked (nI dl) i_isPlanned n_195 x_193)), (q 53, .inl (E.2.1 0, 7, .inl a_given)), (q 54, .inl (E.2.1 0, 7, .inl n_200)), (q 51, .inl (E.2.1 0, 512, .inl a_least)), (q 55, .inl (E.2.1 0, 4, .inl a_sets))] := hD
                  have hP9 := hP.sub (ws' := [(h0, .inr (12, mG q i_taped i_size i_sort i_what i_at i_end i_worth i_faultKind i_faultPlace i_got i_worked (nI dl) i_isPlanned n_195 x_193)), (q 51, .inl (E.2.1 0, 512, .inl a_least)), (q 55, .inl (E.2.1 0, 4, .inl a_sets)), (q 54, .inl (E.2.1 0, 7, .inl n_200)), (q 53, .inl (E.2.1 0, 7, .inl a_given))]) [0, 3, 4, 2, 1] rfl
                  have hD9 := hD.sub (ws' := [(h0, .inr (12, mG q i_taped i_size i_sort i_what i_at i_end i_worth i_faultKind i_faultPlace i_got i_worked (nI dl) i_isPlanned n_195 x_193)), (q 51, .inl (E.2.1 0, 512, .inl a_least)), (q 55, .inl (E.2.1 0, 4, .inl a_sets)), (q 54, .inl (E.2.1 0, 7, .inl n_200)), (q 53, .inl (E.2.1 0, 7, .inl a_given))]) [0, 3, 4, 2, 1] (by decide) rfl
                  exact W.vret hx hb hr (fun t ht hW => ⟨⟨(n_195, x_193, a_sets, n_200, a_given), rfl, trivial, hI_sets, by rw [ht]; exact hP9, hD9⟩, hS.F ht⟩) hS.2.2 dX12_give_169
                · have hP9 := hP.sub (ws' := [(h0, .inr (12, mG q i_taped i_size i_sort i_what i_at i_end i_worth i_faultKind i_faultPlace i_got i_worked (nI dl) i_isPlanned i_bestDone i_bestCost)), (q 51, .inl (E.2.1 0, 512, .inl a_least)), (q 55, .inl (E.2.1 0, 4, .inl a_sets)), (q 54, .inl (E.2.1 0, 7, .inl a_bestGiven)), (q 53, .inl (E.2.1 0, 7, .inl a_given))]) [0, 1, 2, 3, 4] rfl
                  have hD9 := hD.sub (ws' := [(h0, .inr (12, mG q i_taped i_size i_sort i_what i_at i_end i_worth i_faultKind i_faultPlace i_got i_worked (nI dl) i_isPlanned i_bestDone i_bestCost)), (q 51, .inl (E.2.1 0, 512, .inl a_least)), (q 55, .inl (E.2.1 0, 4, .inl a_sets)), (q 54, .inl (E.2.1 0, 7, .inl a_bestGiven)), (q 53, .inl (E.2.1 0, 7, .inl a_given))]) [0, 1, 2, 3, 4] (by decide) rfl
                  exact W.vret hx hb hr (fun t ht hW => ⟨⟨(i_bestDone, i_bestCost, a_sets, a_bestGiven, a_given), rfl, trivial, hI_sets, by rw [ht]; exact hP9, hD9⟩, hS.F ht⟩) hS.2.2 dX12_give_126
          · have hP9 := hP.sub (ws' := [(h0, .inr (12, mG q i_taped i_size i_sort i_what i_at i_end i_worth i_faultKind i_faultPlace i_got i_worked (nI dl) i_isPlanned i_bestDone i_bestCost)), (q 51, .inl (E.2.1 0, 512, .inl a_least)), (q 55, .inl (E.2.1 0, 4, .inl a_sets)), (q 54, .inl (E.2.1 0, 7, .inl a_bestGiven)), (q 53, .inl (E.2.1 0, 7, .inl a_given))]) [0, 1, 2, 3, 4] rfl
            have hD9 := hD.sub (ws' := [(h0, .inr (12, mG q i_taped i_size i_sort i_what i_at i_end i_worth i_faultKind i_faultPlace i_got i_worked (nI dl) i_isPlanned i_bestDone i_bestCost)), (q 51, .inl (E.2.1 0, 512, .inl a_least)), (q 55, .inl (E.2.1 0, 4, .inl a_sets)), (q 54, .inl (E.2.1 0, 7, .inl a_bestGiven)), (q 53, .inl (E.2.1 0, 7, .inl a_given))]) [0, 1, 2, 3, 4] (by decide) rfl
            exact W.vret hx hb hr (fun t ht hW => ⟨⟨(i_bestDone, i_bestCost, a_sets, a_bestGiven, a_given), rfl, trivial, hI_sets, by rw [ht]; exact hP9, hD9⟩, hS.F ht⟩) hS.2.2 dX12_give_44
        · have hP9 := hP.sub (ws' := [(h0, .inr (12, mG q i_taped i_size i_sort i_what i_at i_end i_worth i_faultKind i_faultPlace i_got i_worked (nI dl) i_isPlanned i_bestDone i_bestCost)), (q 51, .inl (E.2.1 0, 512, .inl a_least)), (q 55, .inl (E.2.1 0, 4, .inl a_sets)), (q 54, .inl (E.2.1 0, 7, .inl a_bestGiven)), (q 53, .inl (E.2.1 0, 7, .inl a_given))]) [0, 1, 2, 3, 4] rfl
          have hD9 := hD.sub (ws' := [(h0, .inr (12, mG q i_taped i_size i_sort i_what i_at i_end i_worth i_faultKind i_faultPlace i_got i_worked (nI dl) i_isPlanned i_bestDone i_bestCost)), (q 51, .inl (E.2.1 0, 512, .inl a_least)), (q 55, .inl (E.2.1 0, 4, .inl a_sets)), (q 54, .inl (E.2.1 0, 7, .inl a_bestGiven)), (q 53, .inl (E.2.1 0, 7, .inl a_given))]) [0, 1, 2, 3, 4] (by decide) rfl
          exact W.vret hx hb hr (fun t ht hW => ⟨⟨(i_bestDone, i_bestCost, a_sets, a_bestGiven, a_given), rfl, trivial, hI_sets, by rw [ht]; exact hP9, hD9⟩, hS.F ht⟩) hS.2.2 dX12_give_44
      · have hP9 := hP.sub (ws' := [(h0, .inr (12, mG q i_taped i_size i_sort i_what i_at i_end i_worth i_faultKind i_faultPlace i_got i_worked (nI dl) i_isPlanned i_bestDone i_bestCost)), (q 51, .inl (E.2.1 0, 512, .inl a_least)), (q 55, .inl (E.2.1 0, 4, .inl a_sets)), (q 54, .inl (E.2.1 0, 7, .inl a_bestGiven)), (q 53, .inl (E.2.1 0, 7, .inl a_given))]) [0, 1, 2, 3, 4] rfl
        have hD9 := hD.sub (ws' := [(h0, .inr (12, mG q i_taped i_size i_sort i_what i_at i_end i_worth i_faultKind i_faultPlace i_got i_worked (nI dl) i_isPlanned i_bestDone i_bestCost)), (q 51, .inl (E.2.1 0, 512, .inl a_least)), (q 55, .inl (E.2.1 0, 4, .inl a_sets)), (q 54, .inl (E.2.1 0, 7, .inl a_bestGiven)), (q 53, .inl (E.2.1 0, 7, .inl a_given))]) [0, 1, 2, 3, 4] (by decide) rfl
        exact W.vret hx hb hr (fun t ht hW => ⟨⟨(i_bestDone, i_bestCost, a_sets, a_bestGiven, a_given), rfl, trivial, hI_sets, by rw [ht]; exact hP9, hD9⟩, hS.F ht⟩) hS.2.2 dX12_give_44
    · have hP9 := hP.sub (ws' := [(h0, .inr (12, mG q i_taped i_size i_sort i_what i_at i_end i_worth i_faultKind i_faultPlace i_got i_worked (nI dl) i_isPlanned i_bestDone i_bestCost)), (q 51, .inl (E.2.1 0, 512, .inl a_least)), (q 55, .inl (E.2.1 0, 4, .inl a_sets)), (q 54, .inl (E.2.1 0, 7, .inl a_bestGiven)), (q 53, .inl (E.2.1 0, 7, .inl a_given))]) [0, 1, 2, 3, 4] rfl
      have hD9 := hD.sub (ws' := [(h0, .inr (12, mG q i_taped i_size i_sort i_what i_at i_end i_worth i_faultKind i_faultPlace i_got i_worked (nI dl) i_isPlanned i_bestDone i_bestCost)), (q 51, .inl (E.2.1 0, 512, .inl a_least)), (q 55, .inl (E.2.1 0, 4, .inl a_sets)), (q 54, .inl (E.2.1 0, 7, .inl a_bestGiven)), (q 53, .inl (E.2.1 0, 7, .inl a_given))]) [0, 1, 2, 3, 4] (by decide) rfl
      exact W.vret hx hb hr (fun t ht hW => ⟨⟨(i_bestDone, i_bestCost, a_sets, a_bestGiven, a_given), rfl, trivial, hI_sets, by rw [ht]; exact hP9, hD9⟩, hS.F ht⟩) hS.2.2 dX12_give_44
set_option maxHeartbeats 4000000 in
set_option maxRecDepth 100000 in
theorem c_X12_give4 (l : Launch) (E : vE) (h0 : Nat) (q : Nat → Nat) (i_taped : Int32) (i_size : Int32) (i_sort : Int32) (i_what : Int32) (i_at : Int32) (i_end : Int32) (i_worth : Int32) (i_faultKind : Int32) (i_faultPlace : Int32) (i_got : Int32) (i_worked : Int32) (i_isPlanned : Int32) (i_bestDone : Int32) (i_bestCost : Int32) (dl : Nat) (a_least : Nat → Int32) (a_sets : Nat → Int32) (a_bestGiven : Nat → Int32) (a_given : Nat → Int32) (sz : Nat) (hdl : dl ≤ 7) (hd : 4 ≤ dl) (hI_sets : ∀ k : Nat, k < 4 → inR (a_sets k) 0 127 = true) : Met l yX12_give wsX12_give ({ frames := 3, cells := 0, slots := 0, locals := 75 }) (pcW E [.ref h0, .int 4] sz [(h0, .inr (12, mG q i_taped i_size i_sort i_what i_at i_end i_worth i_faultKind i_faultPlace i_got i_worked (nI dl) i_isPlanned i_bestDone i_bestCost)), (q 51, .inl (E.2.1 0, 512, .inl a_least)), (q 55, .inl (E.2.1 0, 4, .inl a_sets)), (q 54, .inl (E.2.1 0, 7, .inl a_bestGiven)), (q 53, .inl (E.2.1 0, 7, .inl a_given))]) (va_Qv (fun (u : Int32 × Int32 × (Nat → Int32) × (Nat → Int32) × (Nat → Int32)) => match u with | (bd2, bc2, b_sets, b_bestGiven, b_given) => True) (fun (u : Int32 × Int32 × (Nat → Int32) × (Nat → Int32) × (Nat → Int32)) (t : State) => match u with | (bd2, bc2, b_sets, b_bestGiven, b_given) => (∀ k : Nat, k < 4 → inR (b_sets k) 0 127 = true) ∧ wB E (va_A [(h0, .inr (12, mG q i_taped i_size i_sort i_what i_at i_end i_worth i_faultKind i_faultPlace i_got i_worked (nI dl) i_isPlanned i_bestDone i_bestCost)), (q 51, .inl (E.2.1 0, 512, .inl a_least)), (q 55, .inl (E.2.1 0, 4, .inl a_sets)), (q 54, .inl (E.2.1 0, 7, .inl a_bestGiven)), (q 53, .inl (E.2.1 0, 7, .inl a_given))] sz) [(h0, .inr (12, mG q i_taped i_size i_sort i_what i_at i_end i_worth i_faultKind i_faultPlace i_got i_worked (nI dl) i_isPlanned bd2 bc2)), (q 51, .inl (E.2.1 0, 512, .inl a_least)), (q 55, .inl (E.2.1 0, 4, .inl b_sets)), (q 54, .inl (E.2.1 0, 7, .inl b_bestGiven)), (q 53, .inl (E.2.1 0, 7, .inl b_given))] t) (va_A [(h0, .inr (12, mG q i_taped i_size i_sort i_what i_at i_end i_worth i_faultKind i_faultPlace i_got i_worked (nI dl) i_isPlanned i_bestDone i_bestCost)), (q 51, .inl (E.2.1 0, 512, .inl a_least)), (q 55, .inl (E.2.1 0, 4, .inl a_sets)), (q 54, .inl (E.2.1 0, 7, .inl a_bestGiven)), (q 53, .inl (E.2.1 0, 7, .inl a_given))] sz)) 0 0 (va_A [(h0, .inr (12, mG q i_taped i_size i_sort i_what i_at i_end i_worth i_faultKind i_faultPlace i_got i_worked (nI dl) i_isPlanned i_bestDone i_bestCost)), (q 51, .inl (E.2.1 0, 512, .inl a_least)), (q 55, .inl (E.2.1 0, 4, .inl a_sets)), (q 54, .inl (E.2.1 0, 7, .inl a_bestGiven)), (q 53, .inl (E.2.1 0, 7, .inl a_given))] sz) := by
  refine Met.ofW (cc := cX12_give) (maxL := 6) (ret := none) (by decide) rfl ?_
  intro p e s m args below meth c s₁ B hml hv
  obtain ⟨rfl, hsz, hP, hkn, hD0, hst⟩ := hv
  have hx := B.exec
  have hb := B.bytes
  have hr := B.returns
  have hts := atoms_spec (ws := wsX12_give) B.pre
  have hown : s.vm.findClass RX12 = some m.cls := findClass_of_methodNamed B.named
  have hlocks := B.notSynchronized
  subst hsz
  have hD := hD0.self (sz := s.heap.size)
  have hK := hkn.1
  have hAO := hkn.2.2.1
  generalize hAe : va_A [(h0, .inr (12, mG q i_taped i_size i_sort i_what i_at i_end i_worth i_faultKind i_faultPlace i_got i_worked (nI dl) i_isPlanned i_bestDone i_bestCost)), (q 51, .inl (E.2.1 0, 512, .inl a_least)), (q 55, .inl (E.2.1 0, 4, .inl a_sets)), (q 54, .inl (E.2.1 0, 7, .inl a_bestGiven)), (q 53, .inl (E.2.1 0, 7, .inl a_given))] s.heap.size = A at hD hst ⊢
  have hA : ∀ q : Nat, s.heap.size ≤ q → A q := fun q h => by rw [← hAe]; exact Or.inr h
  have hS : va_S A s.heap s.heap [] := va_S.rf
  have hP : va_P E.1 vwCl [(h0, .inr (12, mG q i_taped i_size i_sort i_what i_at i_end i_worth i_faultKind i_faultPlace i_got i_worked (nI dl) i_isPlanned i_bestDone i_bestCost)), (q 51, .inl (E.2.1 0, 512, .inl a_least)), (q 55, .inl (E.2.1 0, 4, .inl a_sets)), (q 54, .inl (E.2.1 0, 7, .inl a_bestGiven)), (q 53, .inl (E.2.1 0, 7, .inl a_given))] s.heap := hP
  have hl := lv_entry ([.ref h0, .int 4]) (n := 6) (Nat.le_of_ble_eq_true rfl)
  rw [lg_entry_eq]
  generalize (lg_sl ([.ref h0, .int 4]) ++ List.replicate (6 - (lg_sl ([.ref h0, .int 4])).length) Slot.unset).toArray = ls at hl ⊢
  have hl : lv_has ls 6 [(0, .ref h0), (1, .int 4)] := hl
  have fl130 := hts (.fieldLink RX12 130 "BoatsHomeModel" "least" "[I") (by first | exact List.mem_of_getElem? (i := 2) rfl | decide +kernel)
  have fl136 := hts (.fieldLink RX12 136 "BoatsHomeModel" "given" "[I") (by first | exact List.mem_of_getElem? (i := 7) rfl | decide +kernel)
  have fl139 := hts (.fieldLink RX12 139 "BoatsHomeModel" "bestGiven" "[I") (by first | exact List.mem_of_getElem? (i := 6) rfl | decide +kernel)
  have fl142 := hts (.fieldLink RX12 142 "BoatsHomeModel" "sets" "[I") (by first | exact List.mem_of_getElem? (i := 3) rfl | decide +kernel)
  have fl289 := hts (.fieldLink RX12 289 "BoatsHomeModel" "deliveries" "I") (by first | exact List.mem_of_getElem? (i := 1) rfl | decide +kernel)
  have fl300 := hts (.fieldLink RX12 300 "BoatsHomeModel" "bestDone" "I") (by first | exact List.mem_of_getElem? (i := 4) rfl | decide +kernel)
  have fl303 := hts (.fieldLink RX12 303 "BoatsHomeModel" "bestCost" "I") (by first | exact List.mem_of_getElem? (i := 5) rfl | decide +kernel)
  have inX12 : ∀ w ∈ u_ws RX12 TX12 59, w ∈ wsX12_give := by first | exact fun w h9 => (List.mem_cons_of_mem _ (List.mem_append_right _ h9)) | decide +kernel
  refine lv_iload_n hx hb dX12_give_0 rfl (lv_at hl 1 rfl) ?_
  refine lv_aload_n hx hb dX12_give_1 rfl (lv_at hl 0 rfl) ?_
  refine va_get (D := E.1) (ci := 12) (v := .int (nI dl)) (C := RX12) (T := TX12) (N := 59) hx hb hts inX12 hown hK hP 0 rfl rfl 41 (by decide) fl289 (fun _ h9 => h9) rfl dX12_give_2 ?_
  refine lv_icmp_ne (tgt := 170) hx hb dX12_give_5 (by decide) (fun c_1 => ?_) (fun c_1 => ?_)
  · have hd2 : 4 + 1 ≤ dl := by
      rcases Nat.lt_or_ge 4 dl with q | q
      · exact q
      · exact absurd (by rw [show dl = 4 by omega]; rfl) c_1
    refine lv_iconst (v := 0) hx hb dX12_give_170 (by decide) ?_
    refine lv_istore_n (lv' := [(2, .int 0), (0, .ref h0), (1, .int 4)]) hx hb dX12_give_171 rfl hl (by decide) rfl (fun ls hl => ?_)
    refine lv_iload_n hx hb dX12_give_172 rfl (lv_at hl 0 rfl) ?_
    refine lv_iconst (v := 4) hx hb dX12_give_173 (by decide) ?_
    refine lv_icmp_ge (tgt := 223) hx hb dX12_give_174 (by decide) (fun c9 => absurd c9 (by decide)) (fun _ => ?_)
    refine lv_aload_n hx hb dX12_give_177 rfl (lv_at hl 1 rfl) ?_
    refine va_get (D := E.1) (ci := 12) (v := .ref (q 53)) (C := RX12) (T := TX12) (N := 59) hx hb hts inX12 hown hK hP 0 rfl rfl 53 (by decide) fl136 (fun _ h9 => h9) rfl dX12_give_178 ?_
    refine lv_iload_n hx hb dX12_give_181 rfl (lv_at hl 2 rfl) ?_
    refine lv_iload_n hx hb dX12_give_182 rfl (lv_at hl 0 rfl) ?_
    refine va_iast hx hb hK hP hD hS 4 0 rfl rfl (show vp_in 4 7 from by unfold vp_in; decide) dX12_give_183 (fun H locs hP hD hS => ?_)
    have hP : va_P E.1 vwCl [(h0, .inr (12, mG q i_taped i_size i_sort i_what i_at i_end i_worth i_faultKind i_faultPlace i_got i_worked (nI dl) i_isPlanned i_bestDone i_bestCost)), (q 51, .inl (E.2.1 0, 512, .inl a_least)), (q 55, .inl (E.2.1 0, 4, .inl a_sets)), (q 54, .inl (E.2.1 0, 7, .inl a_bestGiven)), (q 53, .inl (E.2.1 0, 7, .inl (upd a_given (Int32.toNatClampNeg 4) 0)))] H := hP
    have hD : va_D A [(h0, .inr (12, mG q i_taped i_size i_sort i_what i_at i_end i_worth i_faultKind i_faultPlace i_got i_worked (nI dl) i_isPlanned i_bestDone i_bestCost)), (q 51, .inl (E.2.1 0, 512, .inl a_least)), (q 55, .inl (E.2.1 0, 4, .inl a_sets)), (q 54, .inl (E.2.1 0, 7, .inl a_bestGiven)), (q 53, .inl (E.2.1 0, 7, .inl (upd a_given (Int32.toNatClampNeg 4) 0)))] := hD
    obtain ⟨f_2, ef_2⟩ : ∃ g : Nat → Int32, g = upd a_given (Int32.toNatClampNeg 4) 0 := ⟨_, rfl⟩
    rw [← ef_2] at hP hD
    refine lv_aload_n hx hb dX12_give_184 rfl (lv_at hl 1 rfl) ?_
    refine va_get (D := E.1) (ci := 12) (v := .ref (q 55)) (C := RX12) (T := TX12) (N := 59) hx hb hts inX12 hown hK hP 0 rfl rfl 55 (by decide) fl142 (fun _ h9 => h9) rfl dX12_give_185 ?_
    refine lv_iload_n hx hb dX12_give_188 rfl (lv_at hl 0 rfl) ?_
    refine lv_dup2_11 hx hb dX12_give_189 rfl rfl ?_
    refine va_iald hx hb hK hP 2 0 rfl rfl (show vp_in 0 4 from by unfold vp_in; decide) dX12_give_190 ?_
    refine lv_topi (fun x_3 ex_3 => ?_)
    have hv_4 : inR x_3 0 127 = true := by rw [ex_3]; exact hI_sets _ (vin_cl (show vp_in 0 4 from by unfold vp_in; decide))
    obtain ⟨w_5, hw_6, ew_7⟩ := inR_nI (n := 127) (by decide) hv_4
    subst ew_7
    refine lv_iconst (v := 1) hx hb dX12_give_191 (by decide) ?_
    refine lv_iload_n hx hb dX12_give_192 rfl (lv_at hl 2 rfl) ?_
    refine lv_ishl hx hb dX12_give_193 ?_
    refine lv_topi (fun x_8 ex_8 => ?_)
    obtain rfl : x_8 = 16 := ex_8.trans (by decide +kernel)
    refine lv_ior hx hb dX12_give_194 ?_
    refine lv_topi (fun x_9 ex_9 => ?_)
    refine va_iast hx hb hK hP hD hS 2 0 rfl rfl (show vp_in 0 4 from by unfold vp_in; decide) dX12_give_195 (fun H locs hP hD hS => ?_)
    have hP : va_P E.1 vwCl [(h0, .inr (12, mG q i_taped i_size i_sort i_what i_at i_end i_worth i_faultKind i_faultPlace i_got i_worked (nI dl) i_isPlanned i_bestDone i_bestCost)), (q 51, .inl (E.2.1 0, 512, .inl a_least)), (q 55, .inl (E.2.1 0, 4, .inl (upd a_sets (Int32.toNatClampNeg 0) x_9))), (q 54, .inl (E.2.1 0, 7, .inl a_bestGiven)), (q 53, .inl (E.2.1 0, 7, .inl f_2))] H := hP
    have hD : va_D A [(h0, .inr (12, mG q i_taped i_size i_sort i_what i_at i_end i_worth i_faultKind i_faultPlace i_got i_worked (nI dl) i_isPlanned i_bestDone i_bestCost)), (q 51, .inl (E.2.1 0, 512, .inl a_least)), (q 55, .inl (E.2.1 0, 4, .inl (upd a_sets (Int32.toNatClampNeg 0) x_9))), (q 54, .inl (E.2.1 0, 7, .inl a_bestGiven)), (q 53, .inl (E.2.1 0, 7, .inl f_2))] := hD
    obtain ⟨f_10, ef_10⟩ : ∃ g : Nat → Int32, g = upd a_sets (Int32.toNatClampNeg 0) x_9 := ⟨_, rfl⟩
    rw [← ef_10] at hP hD
    have hI_11 : ∀ k : Nat, k < 4 → inR (f_10 k) 0 127 = true := by rw [ef_10]; exact all_upd (P := fun z => inR z 0 127 = true) hI_sets (by rw [ex_9]; exact or_lt7 _ (by omega) 4 (by decide))
    refine lv_aload_n hx hb dX12_give_196 rfl (lv_at hl 1 rfl) ?_
    refine lv_iload_n hx hb dX12_give_197 rfl (lv_at hl 2 rfl) ?_
    refine lv_iconst (v := 1) hx hb dX12_give_198 (by decide) ?_
    refine lv_iadd hx hb dX12_give_199 ?_
    refine lv_topi (fun x_12 ex_12 => ?_)
    obtain rfl : x_12 = 5 := ex_12.trans (by decide +kernel)
    have hPc := hP.sub (ws' := [(h0, .inr (12, mG q i_taped i_size i_sort i_what i_at i_end i_worth i_faultKind i_faultPlace i_got i_worked (nI dl) i_isPlanned i_bestDone i_bestCost)), (q 51, .inl (E.2.1 0, 512, .inl a_least)), (q 55, .inl (E.2.1 0, 4, .inl f_10)), (q 54, .inl (E.2.1 0, 7, .inl a_bestGiven)), (q 53, .inl (E.2.1 0, 7, .inl f_2))]) [0, 1, 2, 3, 4] rfl
    have hDc := hD.sub (ws' := [(h0, .inr (12, mG q i_taped i_size i_sort i_what i_at i_end i_worth i_faultKind i_faultPlace i_got i_worked (nI dl) i_isPlanned i_bestDone i_bestCost)), (q 51, .inl (E.2.1 0, 512, .inl a_least)), (q 55, .inl (E.2.1 0, 4, .inl f_10)), (q 54, .inl (E.2.1 0, 7, .inl a_bestGiven)), (q 53, .inl (E.2.1 0, 7, .inl f_2))]) [0, 1, 2, 3, 4] (by decide) rfl
    have hFc := va_free (wc := [(h0, .inr (12, mG q i_taped i_size i_sort i_what i_at i_end i_worth i_faultKind i_faultPlace i_got i_worked (nI dl) i_isPlanned i_bestDone i_bestCost)), (q 51, .inl (E.2.1 0, 512, .inl a_least)), (q 55, .inl (E.2.1 0, 4, .inl f_10)), (q 54, .inl (E.2.1 0, 7, .inl a_bestGiven)), (q 53, .inl (E.2.1 0, 7, .inl f_2))]) hD hS hA [0, 1, 2, 3, 4] rfl
    refine va_callv (va_runV (As := [.int 5]) (rest := []) ⟨hx, hb, hml, hown, hts⟩ (c_X12_give5 l E h0 q i_taped i_size i_sort i_what i_at i_end i_worth i_faultKind i_faultPlace i_got i_worked i_isPlanned i_bestDone i_bestCost dl a_least f_10 a_bestGiven f_2 H.size hdl hd2 hI_11) (cwV 1 hts gX12_give_X12_give rfl rfl rfl hdV_X12_give ⟨Nat.le_of_ble_eq_true rfl, Nat.le_of_ble_eq_true rfl⟩) ⟨pcW_blind, va_recv hK hPc (ci := 12) (q0 := 0) rfl rfl, (pcW_pre hPc hkn hDc hst hS hFc)⟩ rfl rfl hl.1 rfl (lv_room (Nat.le_of_ble_eq_true rfl)) dX12_give_200 ⟨Nat.le_of_ble_eq_true rfl, Nat.le_of_ble_eq_true rfl⟩) hS (fun q _ h => hFc q h) hFc (fun u t H1 locs ht hvm hw_14 hB hz1 hk1 hS => ?_)
    obtain ⟨u_15, u_16, u_17, u_18, u_19⟩ := u
    obtain ⟨hf_20, hP1, hD1⟩ := hB
    rw [ht] at hP1
    try dsimp only at hw_14
    obtain ⟨hP, hD⟩ := va_join (wr := []) (w1 := [(h0, .inr (12, mG q i_taped i_size i_sort i_what i_at i_end i_worth i_faultKind i_faultPlace i_got i_worked (nI dl) i_isPlanned u_15 u_16)), (q 51, .inl (E.2.1 0, 512, .inl a_least)), (q 55, .inl (E.2.1 0, 4, .inl u_17)), (q 54, .inl (E.2.1 0, 7, .inl u_18)), (q 53, .inl (E.2.1 0, 7, .inl u_19))]) hP hD [0, 1, 2, 3, 4] [] rfl rfl (by decide) (by decide) hk1 hFc hP1 hD1
    generalize H1 = H at hP hS ⊢
    have hP : va_P E.1 vwCl [(h0, .inr (12, mG q i_taped i_size i_sort i_what i_at i_end i_worth i_faultKind i_faultPlace i_got i_worked (nI dl) i_isPlanned u_15 u_16)), (q 51, .inl (E.2.1 0, 512, .inl a_least)), (q 55, .inl (E.2.1 0, 4, .inl u_17)), (q 54, .inl (E.2.1 0, 7, .inl u_18)), (q 53, .inl (E.2.1 0, 7, .inl u_19))] H := hP
    have hD : va_D A [(h0, .inr (12, mG q i_taped i_size i_sort i_what i_at i_end i_worth i_faultKind i_faultPlace i_got i_worked (nI dl) i_isPlanned u_15 u_16)), (q 51, .inl (E.2.1 0, 512, .inl a_least)), (q 55, .inl (E.2.1 0, 4, .inl u_17)), (q 54, .inl (E.2.1 0, 7, .inl u_18)), (q 53, .inl (E.2.1 0, 7, .inl u_19))] := hD
    refine lv_aload_n hx hb dX12_give_203 rfl (lv_at hl 1 rfl) ?_
    refine va_get (D := E.1) (ci := 12) (v := .ref (q 55)) (C := RX12) (T := TX12) (N := 59) hx hb hts inX12 hown hK hP 0 rfl rfl 55 (by decide) fl142 (fun _ h9 => h9) rfl dX12_give_204 ?_
    refine lv_iload_n hx hb dX12_give_207 rfl (lv_at hl 0 rfl) ?_
    refine lv_dup2_11 hx hb dX12_give_208 rfl rfl ?_
    refine va_iald hx hb hK hP 2 0 rfl rfl (show vp_in 0 4 from by unfold vp_in; decide) dX12_give_209 ?_
    refine lv_topi (fun x_21 ex_21 => ?_)
    have hv_22 : inR x_21 0 127 = true := by rw [ex_21]; exact hf_20 _ (vin_cl (show vp_in 0 4 from by unfold vp_in; decide))
    obtain ⟨w_23, hw_24, ew_25⟩ := inR_nI (n := 127) (by decide) hv_22
    subst ew_25
    refine lv_iconst (v := 1) hx hb dX12_give_210 (by decide) ?_
    refine lv_iload_n hx hb dX12_give_211 rfl (lv_at hl 2 rfl) ?_
    refine lv_ishl hx hb dX12_give_212 ?_
    refine lv_topi (fun x_26 ex_26 => ?_)
    obtain rfl : x_26 = 16 := ex_26.trans (by decide +kernel)
    refine lv_iconst (v := (-1)) hx hb dX12_give_213 (by decide) ?_
    refine lv_ixor hx hb dX12_give_214 ?_
    refine lv_topi (fun x_27 ex_27 => ?_)
    obtain rfl : x_27 = (-17) := ex_27.trans (by decide +kernel)
    refine lv_iand hx hb dX12_give_215 ?_
    refine lv_topi (fun x_28 ex_28 => ?_)
    refine va_iast hx hb hK hP hD hS 2 0 rfl rfl (show vp_in 0 4 from by unfold vp_in; decide) dX12_give_216 (fun H locs hP hD hS => ?_)
    have hP : va_P E.1 vwCl [(h0, .inr (12, mG q i_taped i_size i_sort i_what i_at i_end i_worth i_faultKind i_faultPlace i_got i_worked (nI dl) i_isPlanned u_15 u_16)), (q 51, .inl (E.2.1 0, 512, .inl a_least)), (q 55, .inl (E.2.1 0, 4, .inl (upd u_17 (Int32.toNatClampNeg 0) x_28))), (q 54, .inl (E.2.1 0, 7, .inl u_18)), (q 53, .inl (E.2.1 0, 7, .inl u_19))] H := hP
    have hD : va_D A [(h0, .inr (12, mG q i_taped i_size i_sort i_what i_at i_end i_worth i_faultKind i_faultPlace i_got i_worked (nI dl) i_isPlanned u_15 u_16)), (q 51, .inl (E.2.1 0, 512, .inl a_least)), (q 55, .inl (E.2.1 0, 4, .inl (upd u_17 (Int32.toNatClampNeg 0) x_28))), (q 54, .inl (E.2.1 0, 7, .inl u_18)), (q 53, .inl (E.2.1 0, 7, .inl u_19))] := hD
    obtain ⟨f_29, ef_29⟩ : ∃ g : Nat → Int32, g = upd u_17 (Int32.toNatClampNeg 0) x_28 := ⟨_, rfl⟩
    rw [← ef_29] at hP hD
    have hI_30 : ∀ k : Nat, k < 4 → inR (f_29 k) 0 127 = true := by rw [ef_29]; exact all_upd (P := fun z => inR z 0 127 = true) hf_20 (by rw [ex_28]; exact and_lt7 _ (by omega) 4 (by decide))
    refine lv_iinc (v := 1) (lv' := [(2, .int 1), (0, .ref h0), (1, .int 4)]) hx hb dX12_give_217 hl (k := 0) rfl (by decide) (by decide) rfl (fun ls hl => ?_)
    refine lv_goto (tgt := 172) hx hb dX12_give_220 (by decide) ?_
    refine lv_iload_n hx hb dX12_give_172 rfl (lv_at hl 0 rfl) ?_
    refine lv_iconst (v := 4) hx hb dX12_give_173 (by decide) ?_
    refine lv_icmp_ge (tgt := 223) hx hb dX12_give_174 (by decide) (fun c9 => absurd c9 (by decide)) (fun _ => ?_)
    refine lv_aload_n hx hb dX12_give_177 rfl (lv_at hl 1 rfl) ?_
    refine va_get (D := E.1) (ci := 12) (v := .ref (q 53)) (C := RX12) (T := TX12) (N := 59) hx hb hts inX12 hown hK hP 0 rfl rfl 53 (by decide) fl136 (fun _ h9 => h9) rfl dX12_give_178 ?_
    refine lv_iload_n hx hb dX12_give_181 rfl (lv_at hl 2 rfl) ?_
    refine lv_iload_n hx hb dX12_give_182 rfl (lv_at hl 0 rfl) ?_
    refine va_iast hx hb hK hP hD hS 4 0 rfl rfl (show vp_in 4 7 from by unfold vp_in; decide) dX12_give_183 (fun H locs hP hD hS => ?_)
    have hP : va_P E.1 vwCl [(h0, .inr (12, mG q i_taped i_size i_sort i_what i_at i_end i_worth i_faultKind i_faultPlace i_got i_worked (nI dl) i_isPlanned u_15 u_16)), (q 51, .inl (E.2.1 0, 512, .inl a_least)), (q 55, .inl (E.2.1 0, 4, .inl f_29)), (q 54, .inl (E.2.1 0, 7, .inl u_18)), (q 53, .inl (E.2.1 0, 7, .inl (upd u_19 (Int32.toNatClampNeg 4) 1)))] H := hP
    have hD : va_D A [(h0, .inr (12, mG q i_taped i_size i_sort i_what i_at i_end i_worth i_faultKind i_faultPlace i_got i_worked (nI dl) i_isPlanned u_15 u_16)), (q 51, .inl (E.2.1 0, 512, .inl a_least)), (q 55, .inl (E.2.1 0, 4, .inl f_29)), (q 54, .inl (E.2.1 0, 7, .inl u_18)), (q 53, .inl (E.2.1 0, 7, .inl (upd u_19 (Int32.toNatClampNeg 4) 1)))] := hD
    obtain ⟨f_31, ef_31⟩ : ∃ g : Nat → Int32, g = upd u_19 (Int32.toNatClampNeg 4) 1 := ⟨_, rfl⟩
    rw [← ef_31] at hP hD
    refine lv_aload_n hx hb dX12_give_184 rfl (lv_at hl 1 rfl) ?_
    refine va_get (D := E.1) (ci := 12) (v := .ref (q 55)) (C := RX12) (T := TX12) (N := 59) hx hb hts inX12 hown hK hP 0 rfl rfl 55 (by decide) fl142 (fun _ h9 => h9) rfl dX12_give_185 ?_
    refine lv_iload_n hx hb dX12_give_188 rfl (lv_at hl 0 rfl) ?_
    refine lv_dup2_11 hx hb dX12_give_189 rfl rfl ?_
    refine va_iald hx hb hK hP 2 0 rfl rfl (show vp_in 1 4 from by unfold vp_in; decide) dX12_give_190 ?_
    refine lv_topi (fun x_32 ex_32 => ?_)
    have hv_33 : inR x_32 0 127 = true := by rw [ex_32]; exact hI_30 _ (vin_cl (show vp_in 1 4 from by unfold vp_in; decide))
    obtain ⟨w_34, hw_35, ew_36⟩ := inR_nI (n := 127) (by decide) hv_33
    subst ew_36
    refine lv_iconst (v := 1) hx hb dX12_give_191 (by decide) ?_
    refine lv_iload_n hx hb dX12_give_192 rfl (lv_at hl 2 rfl) ?_
    refine lv_ishl hx hb dX12_give_193 ?_
    refine lv_topi (fun x_37 ex_37 => ?_)
    obtain rfl : x_37 = 16 := ex_37.trans (by decide +kernel)
    refine lv_ior hx hb dX12_give_194 ?_
    refine lv_topi (fun x_38 ex_38 => ?_)
    refine va_iast hx hb hK hP hD hS 2 0 rfl rfl (show vp_in 1 4 from by unfold vp_in; decide) dX12_give_195 (fun H locs hP hD hS => ?_)
    have hP : va_P E.1 vwCl [(h0, .inr (12, mG q i_taped i_size i_sort i_what i_at i_end i_worth i_faultKind i_faultPlace i_got i_worked (nI dl) i_isPlanned u_15 u_16)), (q 51, .inl (E.2.1 0, 512, .inl a_least)), (q 55, .inl (E.2.1 0, 4, .inl (upd f_29 (Int32.toNatClampNeg 1) x_38))), (q 54, .inl (E.2.1 0, 7, .inl u_18)), (q 53, .inl (E.2.1 0, 7, .inl f_31))] H := hP
    have hD : va_D A [(h0, .inr (12, mG q i_taped i_size i_sort i_what i_at i_end i_worth i_faultKind i_faultPlace i_got i_worked (nI dl) i_isPlanned u_15 u_16)), (q 51, .inl (E.2.1 0, 512, .inl a_least)), (q 55, .inl (E.2.1 0, 4, .inl (upd f_29 (Int32.toNatClampNeg 1) x_38))), (q 54, .inl (E.2.1 0, 7, .inl u_18)), (q 53, .inl (E.2.1 0, 7, .inl f_31))] := hD
    obtain ⟨f_39, ef_39⟩ : ∃ g : Nat → Int32, g = upd f_29 (Int32.toNatClampNeg 1) x_38 := ⟨_, rfl⟩
    rw [← ef_39] at hP hD
    have hI_40 : ∀ k : Nat, k < 4 → inR (f_39 k) 0 127 = true := by rw [ef_39]; exact all_upd (P := fun z => inR z 0 127 = true) hI_30 (by rw [ex_38]; exact or_lt7 _ (by omega) 4 (by decide))
    refine lv_aload_n hx hb dX12_give_196 rfl (lv_at hl 1 rfl) ?_
    refine lv_iload_n hx hb dX12_give_197 rfl (lv_at hl 2 rfl) ?_
    refine lv_iconst (v := 1) hx hb dX12_give_198 (by decide) ?_
    refine lv_iadd hx hb dX12_give_199 ?_
    refine lv_topi (fun x_41 ex_41 => ?_)
    obtain rfl : x_41 = 5 := ex_41.trans (by decide +kernel)
    have hPc := hP.sub (ws' := [(h0, .inr (12, mG q i_taped i_size i_sort i_what i_at i_end i_worth i_faultKind i_faultPlace i_got i_worked (nI dl) i_isPlanned u_15 u_16)), (q 51, .inl (E.2.1 0, 512, .inl a_least)), (q 55, .inl (E.2.1 0, 4, .inl f_39)), (q 54, .inl (E.2.1 0, 7, .inl u_18)), (q 53, .inl (E.2.1 0, 7, .inl f_31))]) [0, 1, 2, 3, 4] rfl
    have hDc := hD.sub (ws' := [(h0, .inr (12, mG q i_taped i_size i_sort i_what i_at i_end i_worth i_faultKind i_faultPlace i_got i_worked (nI dl) i_isPlanned u_15 u_16)), (q 51, .inl (E.2.1 0, 512, .inl a_least)), (q 55, .inl (E.2.1 0, 4, .inl f_39)), (q 54, .inl (E.2.1 0, 7, .inl u_18)), (q 53, .inl (E.2.1 0, 7, .inl f_31))]) [0, 1, 2, 3, 4] (by decide) rfl
    have hFc := va_free (wc := [(h0, .inr (12, mG q i_taped i_size i_sort i_what i_at i_end i_worth i_faultKind i_faultPlace i_got i_worked (nI dl) i_isPlanned u_15 u_16)), (q 51, .inl (E.2.1 0, 512, .inl a_least)), (q 55, .inl (E.2.1 0, 4, .inl f_39)), (q 54, .inl (E.2.1 0, 7, .inl u_18)), (q 53, .inl (E.2.1 0, 7, .inl f_31))]) hD hS hA [0, 1, 2, 3, 4] rfl
    refine va_callv (va_runV (As := [.int 5]) (rest := []) ⟨hx, hb, hml, hown, hts⟩ (c_X12_give5 l E h0 q i_taped i_size i_sort i_what i_at i_end i_worth i_faultKind i_faultPlace i_got i_worked i_isPlanned u_15 u_16 dl a_least f_39 u_18 f_31 H.size hdl hd2 hI_40) (cwV 1 hts gX12_give_X12_give rfl rfl rfl hdV_X12_give ⟨Nat.le_of_ble_eq_true rfl, Nat.le_of_ble_eq_true rfl⟩) ⟨pcW_blind, va_recv hK hPc (ci := 12) (q0 := 0) rfl rfl, (pcW_pre hPc hkn hDc hst hS hFc)⟩ rfl rfl hl.1 rfl (lv_room (Nat.le_of_ble_eq_true rfl)) dX12_give_200 ⟨Nat.le_of_ble_eq_true rfl, Nat.le_of_ble_eq_true rfl⟩) hS (fun q _ h => hFc q h) hFc (fun u t H1 locs ht hvm hw_43 hB hz1 hk1 hS => ?_)
    obtain ⟨u_44, u_45, u_46, u_47, u_48⟩ := u
    obtain ⟨hf_49, hP1, hD1⟩ := hB
    rw [ht] at hP1
    try dsimp only at hw_43
    obtain ⟨hP, hD⟩ := va_join (wr := []) (w1 := [(h0, .inr (12, mG q i_taped i_size i_sort i_what i_at i_end i_worth i_faultKind i_faultPlace i_got i_worked (nI dl) i_isPlanned u_44 u_45)), (q 51, .inl (E.2.1 0, 512, .inl a_least)), (q 55, .inl (E.2.1 0, 4, .inl u_46)), (q 54, .inl (E.2.1 0, 7, .inl u_47)), (q 53, .inl (E.2.1 0, 7, .inl u_48))]) hP hD [0, 1, 2, 3, 4] [] rfl rfl (by decide) (by decide) hk1 hFc hP1 hD1
    generalize H1 = H at hP hS ⊢
    have hP : va_P E.1 vwCl [(h0, .inr (12, mG q i_taped i_size i_sort i_what i_at i_end i_worth i_faultKind i_faultPlace i_got i_worked (nI dl) i_isPlanned u_44 u_45)), (q 51, .inl (E.2.1 0, 512, .inl a_least)), (q 55, .inl (E.2.1 0, 4, .inl u_46)), (q 54, .inl (E.2.1 0, 7, .inl u_47)), (q 53, .inl (E.2.1 0, 7, .inl u_48))] H := hP
    have hD : va_D A [(h0, .inr (12, mG q i_taped i_size i_sort i_what i_at i_end i_worth i_faultKind i_faultPlace i_got i_worked (nI dl) i_isPlanned u_44 u_45)), (q 51, .inl (E.2.1 0, 512, .inl a_least)), (q 55, .inl (E.2.1 0, 4, .inl u_46)), (q 54, .inl (E.2.1 0, 7, .inl u_47)), (q 53, .inl (E.2.1 0, 7, .inl u_48))] := hD
    refine lv_aload_n hx hb dX12_give_203 rfl (lv_at hl 1 rfl) ?_
    refine va_get (D := E.1) (ci := 12) (v := .ref (q 55)) (C := RX12) (T := TX12) (N := 59) hx hb hts inX12 hown hK hP 0 rfl rfl 55 (by decide) fl142 (fun _ h9 => h9) rfl dX12_give_204 ?_
    refine lv_iload_n hx hb dX12_give_207 rfl (lv_at hl 0 rfl) ?_
    refine lv_dup2_11 hx hb dX12_give_208 rfl rfl ?_
    refine va_iald hx hb hK hP 2 0 rfl rfl (show vp_in 1 4 from by unfold vp_in; decide) dX12_give_209 ?_
    refine lv_topi (fun x_50 ex_50 => ?_)
    have hv_51 : inR x_50 0 127 = true := by rw [ex_50]; exact hf_49 _ (vin_cl (show vp_in 1 4 from by unfold vp_in; decide))
    obtain ⟨w_52, hw_53, ew_54⟩ := inR_nI (n := 127) (by decide) hv_51
    subst ew_54
    refine lv_iconst (v := 1) hx hb dX12_give_210 (by decide) ?_
    refine lv_iload_n hx hb dX12_give_211 rfl (lv_at hl 2 rfl) ?_
    refine lv_ishl hx hb dX12_give_212 ?_
    refine lv_topi (fun x_55 ex_55 => ?_)
    obtain rfl : x_55 = 16 := ex_55.trans (by decide +kernel)
    refine lv_iconst (v := (-1)) hx hb dX12_give_213 (by decide) ?_
    refine lv_ixor hx hb dX12_give_214 ?_
    refine lv_topi (fun x_56 ex_56 => ?_)
    obtain rfl : x_56 = (-17) := ex_56.trans (by decide +kernel)
    refine lv_iand hx hb dX12_give_215 ?_
    refine lv_topi (fun x_57 ex_57 => ?_)
    refine va_iast hx hb hK hP hD hS 2 0 rfl rfl (show vp_in 1 4 from by unfold vp_in; decide) dX12_give_216 (fun H locs hP hD hS => ?_)
    have hP : va_P E.1 vwCl [(h0, .inr (12, mG q i_taped i_size i_sort i_what i_at i_end i_worth i_faultKind i_faultPlace i_got i_worked (nI dl) i_isPlanned u_44 u_45)), (q 51, .inl (E.2.1 0, 512, .inl a_least)), (q 55, .inl (E.2.1 0, 4, .inl (upd u_46 (Int32.toNatClampNeg 1) x_57))), (q 54, .inl (E.2.1 0, 7, .inl u_47)), (q 53, .inl (E.2.1 0, 7, .inl u_48))] H := hP
    have hD : va_D A [(h0, .inr (12, mG q i_taped i_size i_sort i_what i_at i_end i_worth i_faultKind i_faultPlace i_got i_worked (nI dl) i_isPlanned u_44 u_45)), (q 51, .inl (E.2.1 0, 512, .inl a_least)), (q 55, .inl (E.2.1 0, 4, .inl (upd u_46 (Int32.toNatClampNeg 1) x_57))), (q 54, .inl (E.2.1 0, 7, .inl u_47)), (q 53, .inl (E.2.1 0, 7, .inl u_48))] := hD
    obtain ⟨f_58, ef_58⟩ : ∃ g : Nat → Int32, g = upd u_46 (Int32.toNatClampNeg 1) x_57 := ⟨_, rfl⟩
    rw [← ef_58] at hP hD
    have hI_59 : ∀ k : Nat, k < 4 → inR (f_58 k) 0 127 = true := by rw [ef_58]; exact all_upd (P := fun z => inR z 0 127 = true) hf_49 (by rw [ex_57]; exact and_lt7 _ (by omega) 4 (by decide))
    refine lv_iinc (v := 2) (lv' := [(2, .int 2), (0, .ref h0), (1, .int 4)]) hx hb dX12_give_217 hl (k := 0) rfl (by decide) (by decide) rfl (fun ls hl => ?_)
    refine lv_goto (tgt := 172) hx hb dX12_give_220 (by decide) ?_
    refine lv_iload_n hx hb dX12_give_172 rfl (lv_at hl 0 rfl) ?_
    refine lv_iconst (v := 4) hx hb dX12_give_173 (by decide) ?_
    refine lv_icmp_ge (tgt := 223) hx hb dX12_give_174 (by decide) (fun c9 => absurd c9 (by decide)) (fun _ => ?_)
    refine lv_aload_n hx hb dX12_give_177 rfl (lv_at hl 1 rfl) ?_
    refine va_get (D := E.1) (ci := 12) (v := .ref (q 53)) (C := RX12) (T := TX12) (N := 59) hx hb hts inX12 hown hK hP 0 rfl rfl 53 (by decide) fl136 (fun _ h9 => h9) rfl dX12_give_178 ?_
    refine lv_iload_n hx hb dX12_give_181 rfl (lv_at hl 2 rfl) ?_
    refine lv_iload_n hx hb dX12_give_182 rfl (lv_at hl 0 rfl) ?_
    refine va_iast hx hb hK hP hD hS 4 0 rfl rfl (show vp_in 4 7 from by unfold vp_in; decide) dX12_give_183 (fun H locs hP hD hS => ?_)
    have hP : va_P E.1 vwCl [(h0, .inr (12, mG q i_taped i_size i_sort i_what i_at i_end i_worth i_faultKind i_faultPlace i_got i_worked (nI dl) i_isPlanned u_44 u_45)), (q 51, .inl (E.2.1 0, 512, .inl a_least)), (q 55, .inl (E.2.1 0, 4, .inl f_58)), (q 54, .inl (E.2.1 0, 7, .inl u_47)), (q 53, .inl (E.2.1 0, 7, .inl (upd u_48 (Int32.toNatClampNeg 4) 2)))] H := hP
    have hD : va_D A [(h0, .inr (12, mG q i_taped i_size i_sort i_what i_at i_end i_worth i_faultKind i_faultPlace i_got i_worked (nI dl) i_isPlanned u_44 u_45)), (q 51, .inl (E.2.1 0, 512, .inl a_least)), (q 55, .inl (E.2.1 0, 4, .inl f_58)), (q 54, .inl (E.2.1 0, 7, .inl u_47)), (q 53, .inl (E.2.1 0, 7, .inl (upd u_48 (Int32.toNatClampNeg 4) 2)))] := hD
    obtain ⟨f_60, ef_60⟩ : ∃ g : Nat → Int32, g = upd u_48 (Int32.toNatClampNeg 4) 2 := ⟨_, rfl⟩
    rw [← ef_60] at hP hD
    refine lv_aload_n hx hb dX12_give_184 rfl (lv_at hl 1 rfl) ?_
    refine va_get (D := E.1) (ci := 12) (v := .ref (q 55)) (C := RX12) (T := TX12) (N := 59) hx hb hts inX12 hown hK hP 0 rfl rfl 55 (by decide) fl142 (fun _ h9 => h9) rfl dX12_give_185 ?_
    refine lv_iload_n hx hb dX12_give_188 rfl (lv_at hl 0 rfl) ?_
    refine lv_dup2_11 hx hb dX12_give_189 rfl rfl ?_
    refine va_iald hx hb hK hP 2 0 rfl rfl (show vp_in 2 4 from by unfold vp_in; decide) dX12_give_190 ?_
    refine lv_topi (fun x_61 ex_61 => ?_)
    have hv_62 : inR x_61 0 127 = true := by rw [ex_61]; exact hI_59 _ (vin_cl (show vp_in 2 4 from by unfold vp_in; decide))
    obtain ⟨w_63, hw_64, ew_65⟩ := inR_nI (n := 127) (by decide) hv_62
    subst ew_65
    refine lv_iconst (v := 1) hx hb dX12_give_191 (by decide) ?_
    refine lv_iload_n hx hb dX12_give_192 rfl (lv_at hl 2 rfl) ?_
    refine lv_ishl hx hb dX12_give_193 ?_
    refine lv_topi (fun x_66 ex_66 => ?_)
    obtain rfl : x_66 = 16 := ex_66.trans (by decide +kernel)
    refine lv_ior hx hb dX12_give_194 ?_
    refine lv_topi (fun x_67 ex_67 => ?_)
    refine va_iast hx hb hK hP hD hS 2 0 rfl rfl (show vp_in 2 4 from by unfold vp_in; decide) dX12_give_195 (fun H locs hP hD hS => ?_)
    have hP : va_P E.1 vwCl [(h0, .inr (12, mG q i_taped i_size i_sort i_what i_at i_end i_worth i_faultKind i_faultPlace i_got i_worked (nI dl) i_isPlanned u_44 u_45)), (q 51, .inl (E.2.1 0, 512, .inl a_least)), (q 55, .inl (E.2.1 0, 4, .inl (upd f_58 (Int32.toNatClampNeg 2) x_67))), (q 54, .inl (E.2.1 0, 7, .inl u_47)), (q 53, .inl (E.2.1 0, 7, .inl f_60))] H := hP
    have hD : va_D A [(h0, .inr (12, mG q i_taped i_size i_sort i_what i_at i_end i_worth i_faultKind i_faultPlace i_got i_worked (nI dl) i_isPlanned u_44 u_45)), (q 51, .inl (E.2.1 0, 512, .inl a_least)), (q 55, .inl (E.2.1 0, 4, .inl (upd f_58 (Int32.toNatClampNeg 2) x_67))), (q 54, .inl (E.2.1 0, 7, .inl u_47)), (q 53, .inl (E.2.1 0, 7, .inl f_60))] := hD
    obtain ⟨f_68, ef_68⟩ : ∃ g : Nat → Int32, g = upd f_58 (Int32.toNatClampNeg 2) x_67 := ⟨_, rfl⟩
    rw [← ef_68] at hP hD
    have hI_69 : ∀ k : Nat, k < 4 → inR (f_68 k) 0 127 = true := by rw [ef_68]; exact all_upd (P := fun z => inR z 0 127 = true) hI_59 (by rw [ex_67]; exact or_lt7 _ (by omega) 4 (by decide))
    refine lv_aload_n hx hb dX12_give_196 rfl (lv_at hl 1 rfl) ?_
    refine lv_iload_n hx hb dX12_give_197 rfl (lv_at hl 2 rfl) ?_
    refine lv_iconst (v := 1) hx hb dX12_give_198 (by decide) ?_
    refine lv_iadd hx hb dX12_give_199 ?_
    refine lv_topi (fun x_70 ex_70 => ?_)
    obtain rfl : x_70 = 5 := ex_70.trans (by decide +kernel)
    have hPc := hP.sub (ws' := [(h0, .inr (12, mG q i_taped i_size i_sort i_what i_at i_end i_worth i_faultKind i_faultPlace i_got i_worked (nI dl) i_isPlanned u_44 u_45)), (q 51, .inl (E.2.1 0, 512, .inl a_least)), (q 55, .inl (E.2.1 0, 4, .inl f_68)), (q 54, .inl (E.2.1 0, 7, .inl u_47)), (q 53, .inl (E.2.1 0, 7, .inl f_60))]) [0, 1, 2, 3, 4] rfl
    have hDc := hD.sub (ws' := [(h0, .inr (12, mG q i_taped i_size i_sort i_what i_at i_end i_worth i_faultKind i_faultPlace i_got i_worked (nI dl) i_isPlanned u_44 u_45)), (q 51, .inl (E.2.1 0, 512, .inl a_least)), (q 55, .inl (E.2.1 0, 4, .inl f_68)), (q 54, .inl (E.2.1 0, 7, .inl u_47)), (q 53, .inl (E.2.1 0, 7, .inl f_60))]) [0, 1, 2, 3, 4] (by decide) rfl
    have hFc := va_free (wc := [(h0, .inr (12, mG q i_taped i_size i_sort i_what i_at i_end i_worth i_faultKind i_faultPlace i_got i_worked (nI dl) i_isPlanned u_44 u_45)), (q 51, .inl (E.2.1 0, 512, .inl a_least)), (q 55, .inl (E.2.1 0, 4, .inl f_68)), (q 54, .inl (E.2.1 0, 7, .inl u_47)), (q 53, .inl (E.2.1 0, 7, .inl f_60))]) hD hS hA [0, 1, 2, 3, 4] rfl
    refine va_callv (va_runV (As := [.int 5]) (rest := []) ⟨hx, hb, hml, hown, hts⟩ (c_X12_give5 l E h0 q i_taped i_size i_sort i_what i_at i_end i_worth i_faultKind i_faultPlace i_got i_worked i_isPlanned u_44 u_45 dl a_least f_68 u_47 f_60 H.size hdl hd2 hI_69) (cwV 1 hts gX12_give_X12_give rfl rfl rfl hdV_X12_give ⟨Nat.le_of_ble_eq_true rfl, Nat.le_of_ble_eq_true rfl⟩) ⟨pcW_blind, va_recv hK hPc (ci := 12) (q0 := 0) rfl rfl, (pcW_pre hPc hkn hDc hst hS hFc)⟩ rfl rfl hl.1 rfl (lv_room (Nat.le_of_ble_eq_true rfl)) dX12_give_200 ⟨Nat.le_of_ble_eq_true rfl, Nat.le_of_ble_eq_true rfl⟩) hS (fun q _ h => hFc q h) hFc (fun u t H1 locs ht hvm hw_72 hB hz1 hk1 hS => ?_)
    obtain ⟨u_73, u_74, u_75, u_76, u_77⟩ := u
    obtain ⟨hf_78, hP1, hD1⟩ := hB
    rw [ht] at hP1
    try dsimp only at hw_72
    obtain ⟨hP, hD⟩ := va_join (wr := []) (w1 := [(h0, .inr (12, mG q i_taped i_size i_sort i_what i_at i_end i_worth i_faultKind i_faultPlace i_got i_worked (nI dl) i_isPlanned u_73 u_74)), (q 51, .inl (E.2.1 0, 512, .inl a_least)), (q 55, .inl (E.2.1 0, 4, .inl u_75)), (q 54, .inl (E.2.1 0, 7, .inl u_76)), (q 53, .inl (E.2.1 0, 7, .inl u_77))]) hP hD [0, 1, 2, 3, 4] [] rfl rfl (by decide) (by decide) hk1 hFc hP1 hD1
    generalize H1 = H at hP hS ⊢
    have hP : va_P E.1 vwCl [(h0, .inr (12, mG q i_taped i_size i_sort i_what i_at i_end i_worth i_faultKind i_faultPlace i_got i_worked (nI dl) i_isPlanned u_73 u_74)), (q 51, .inl (E.2.1 0, 512, .inl a_least)), (q 55, .inl (E.2.1 0, 4, .inl u_75)), (q 54, .inl (E.2.1 0, 7, .inl u_76)), (q 53, .inl (E.2.1 0, 7, .inl u_77))] H := hP
    have hD : va_D A [(h0, .inr (12, mG q i_taped i_size i_sort i_what i_at i_end i_worth i_faultKind i_faultPlace i_got i_worked (nI dl) i_isPlanned u_73 u_74)), (q 51, .inl (E.2.1 0, 512, .inl a_least)), (q 55, .inl (E.2.1 0, 4, .inl u_75)), (q 54, .inl (E.2.1 0, 7, .inl u_76)), (q 53, .inl (E.2.1 0, 7, .inl u_77))] := hD
    refine lv_aload_n hx hb dX12_give_203 rfl (lv_at hl 1 rfl) ?_
    refine va_get (D := E.1) (ci := 12) (v := .ref (q 55)) (C := RX12) (T := TX12) (N := 59) hx hb hts inX12 hown hK hP 0 rfl rfl 55 (by decide) fl142 (fun _ h9 => h9) rfl dX12_give_204 ?_
    refine lv_iload_n hx hb dX12_give_207 rfl (lv_at hl 0 rfl) ?_
    refine lv_dup2_11 hx hb dX12_give_208 rfl rfl ?_
    refine va_iald hx hb hK hP 2 0 rfl rfl (show vp_in 2 4 from by unfold vp_in; decide) dX12_give_209 ?_
    refine lv_topi (fun x_79 ex_79 => ?_)
    have hv_80 : inR x_79 0 127 = true := by rw [ex_79]; exact hf_78 _ (vin_cl (show vp_in 2 4 from by unfold vp_in; decide))
    obtain ⟨w_81, hw_82, ew_83⟩ := inR_nI (n := 127) (by decide) hv_80
    subst ew_83
    refine lv_iconst (v := 1) hx hb dX12_give_210 (by decide) ?_
    refine lv_iload_n hx hb dX12_give_211 rfl (lv_at hl 2 rfl) ?_
    refine lv_ishl hx hb dX12_give_212 ?_
    refine lv_topi (fun x_84 ex_84 => ?_)
    obtain rfl : x_84 = 16 := ex_84.trans (by decide +kernel)
    refine lv_iconst (v := (-1)) hx hb dX12_give_213 (by decide) ?_
    refine lv_ixor hx hb dX12_give_214 ?_
    refine lv_topi (fun x_85 ex_85 => ?_)
    obtain rfl : x_85 = (-17) := ex_85.trans (by decide +kernel)
    refine lv_iand hx hb dX12_give_215 ?_
    refine lv_topi (fun x_86 ex_86 => ?_)
    refine va_iast hx hb hK hP hD hS 2 0 rfl rfl (show vp_in 2 4 from by unfold vp_in; decide) dX12_give_216 (fun H locs hP hD hS => ?_)
    have hP : va_P E.1 vwCl [(h0, .inr (12, mG q i_taped i_size i_sort i_what i_at i_end i_worth i_faultKind i_faultPlace i_got i_worked (nI dl) i_isPlanned u_73 u_74)), (q 51, .inl (E.2.1 0, 512, .inl a_least)), (q 55, .inl (E.2.1 0, 4, .inl (upd u_75 (Int32.toNatClampNeg 2) x_86))), (q 54, .inl (E.2.1 0, 7, .inl u_76)), (q 53, .inl (E.2.1 0, 7, .inl u_77))] H := hP
    have hD : va_D A [(h0, .inr (12, mG q i_taped i_size i_sort i_what i_at i_end i_worth i_faultKind i_faultPlace i_got i_worked (nI dl) i_isPlanned u_73 u_74)), (q 51, .inl (E.2.1 0, 512, .inl a_least)), (q 55, .inl (E.2.1 0, 4, .inl (upd u_75 (Int32.toNatClampNeg 2) x_86))), (q 54, .inl (E.2.1 0, 7, .inl u_76)), (q 53, .inl (E.2.1 0, 7, .inl u_77))] := hD
    obtain ⟨f_87, ef_87⟩ : ∃ g : Nat → Int32, g = upd u_75 (Int32.toNatClampNeg 2) x_86 := ⟨_, rfl⟩
    rw [← ef_87] at hP hD
    have hI_88 : ∀ k : Nat, k < 4 → inR (f_87 k) 0 127 = true := by rw [ef_87]; exact all_upd (P := fun z => inR z 0 127 = true) hf_78 (by rw [ex_86]; exact and_lt7 _ (by omega) 4 (by decide))
    refine lv_iinc (v := 3) (lv' := [(2, .int 3), (0, .ref h0), (1, .int 4)]) hx hb dX12_give_217 hl (k := 0) rfl (by decide) (by decide) rfl (fun ls hl => ?_)
    refine lv_goto (tgt := 172) hx hb dX12_give_220 (by decide) ?_
    refine lv_iload_n hx hb dX12_give_172 rfl (lv_at hl 0 rfl) ?_
    refine lv_iconst (v := 4) hx hb dX12_give_173 (by decide) ?_
    refine lv_icmp_ge (tgt := 223) hx hb dX12_give_174 (by decide) (fun c9 => absurd c9 (by decide)) (fun _ => ?_)
    refine lv_aload_n hx hb dX12_give_177 rfl (lv_at hl 1 rfl) ?_
    refine va_get (D := E.1) (ci := 12) (v := .ref (q 53)) (C := RX12) (T := TX12) (N := 59) hx hb hts inX12 hown hK hP 0 rfl rfl 53 (by decide) fl136 (fun _ h9 => h9) rfl dX12_give_178 ?_
    refine lv_iload_n hx hb dX12_give_181 rfl (lv_at hl 2 rfl) ?_
    refine lv_iload_n hx hb dX12_give_182 rfl (lv_at hl 0 rfl) ?_
    refine va_iast hx hb hK hP hD hS 4 0 rfl rfl (show vp_in 4 7 from by unfold vp_in; decide) dX12_give_183 (fun H locs hP hD hS => ?_)
    have hP : va_P E.1 vwCl [(h0, .inr (12, mG q i_taped i_size i_sort i_what i_at i_end i_worth i_faultKind i_faultPlace i_got i_worked (nI dl) i_isPlanned u_73 u_74)), (q 51, .inl (E.2.1 0, 512, .inl a_least)), (q 55, .inl (E.2.1 0, 4, .inl f_87)), (q 54, .inl (E.2.1 0, 7, .inl u_76)), (q 53, .inl (E.2.1 0, 7, .inl (upd u_77 (Int32.toNatClampNeg 4) 3)))] H := hP
    have hD : va_D A [(h0, .inr (12, mG q i_taped i_size i_sort i_what i_at i_end i_worth i_faultKind i_faultPlace i_got i_worked (nI dl) i_isPlanned u_73 u_74)), (q 51, .inl (E.2.1 0, 512, .inl a_least)), (q 55, .inl (E.2.1 0, 4, .inl f_87)), (q 54, .inl (E.2.1 0, 7, .inl u_76)), (q 53, .inl (E.2.1 0, 7, .inl (upd u_77 (Int32.toNatClampNeg 4) 3)))] := hD
    obtain ⟨f_89, ef_89⟩ : ∃ g : Nat → Int32, g = upd u_77 (Int32.toNatClampNeg 4) 3 := ⟨_, rfl⟩
    rw [← ef_89] at hP hD
    refine lv_aload_n hx hb dX12_give_184 rfl (lv_at hl 1 rfl) ?_
    refine va_get (D := E.1) (ci := 12) (v := .ref (q 55)) (C := RX12) (T := TX12) (N := 59) hx hb hts inX12 hown hK hP 0 rfl rfl 55 (by decide) fl142 (fun _ h9 => h9) rfl dX12_give_185 ?_
    refine lv_iload_n hx hb dX12_give_188 rfl (lv_at hl 0 rfl) ?_
    refine lv_dup2_11 hx hb dX12_give_189 rfl rfl ?_
    refine va_iald hx hb hK hP 2 0 rfl rfl (show vp_in 3 4 from by unfold vp_in; decide) dX12_give_190 ?_
    refine lv_topi (fun x_90 ex_90 => ?_)
    have hv_91 : inR x_90 0 127 = true := by rw [ex_90]; exact hI_88 _ (vin_cl (show vp_in 3 4 from by unfold vp_in; decide))
    obtain ⟨w_92, hw_93, ew_94⟩ := inR_nI (n := 127) (by decide) hv_91
    subst ew_94
    refine lv_iconst (v := 1) hx hb dX12_give_191 (by decide) ?_
    refine lv_iload_n hx hb dX12_give_192 rfl (lv_at hl 2 rfl) ?_
    refine lv_ishl hx hb dX12_give_193 ?_
    refine lv_topi (fun x_95 ex_95 => ?_)
    obtain rfl : x_95 = 16 := ex_95.trans (by decide +kernel)
    refine lv_ior hx hb dX12_give_194 ?_
    refine lv_topi (fun x_96 ex_96 => ?_)
    refine va_iast hx hb hK hP hD hS 2 0 rfl rfl (show vp_in 3 4 from by unfold vp_in; decide) dX12_give_195 (fun H locs hP hD hS => ?_)
    have hP : va_P E.1 vwCl [(h0, .inr (12, mG q i_taped i_size i_sort i_what i_at i_end i_worth i_faultKind i_faultPlace i_got i_worked (nI dl) i_isPlanned u_73 u_74)), (q 51, .inl (E.2.1 0, 512, .inl a_least)), (q 55, .inl (E.2.1 0, 4, .inl (upd f_87 (Int32.toNatClampNeg 3) x_96))), (q 54, .inl (E.2.1 0, 7, .inl u_76)), (q 53, .inl (E.2.1 0, 7, .inl f_89))] H := hP
    have hD : va_D A [(h0, .inr (12, mG q i_taped i_size i_sort i_what i_at i_end i_worth i_faultKind i_faultPlace i_got i_worked (nI dl) i_isPlanned u_73 u_74)), (q 51, .inl (E.2.1 0, 512, .inl a_least)), (q 55, .inl (E.2.1 0, 4, .inl (upd f_87 (Int32.toNatClampNeg 3) x_96))), (q 54, .inl (E.2.1 0, 7, .inl u_76)), (q 53, .inl (E.2.1 0, 7, .inl f_89))] := hD
    obtain ⟨f_97, ef_97⟩ : ∃ g : Nat → Int32, g = upd f_87 (Int32.toNatClampNeg 3) x_96 := ⟨_, rfl⟩
    rw [← ef_97] at hP hD
    have hI_98 : ∀ k : Nat, k < 4 → inR (f_97 k) 0 127 = true := by rw [ef_97]; exact all_upd (P := fun z => inR z 0 127 = true) hI_88 (by rw [ex_96]; exact or_lt7 _ (by omega) 4 (by decide))
    refine lv_aload_n hx hb dX12_give_196 rfl (lv_at hl 1 rfl) ?_
    refine lv_iload_n hx hb dX12_give_197 rfl (lv_at hl 2 rfl) ?_
    refine lv_iconst (v := 1) hx hb dX12_give_198 (by decide) ?_
    refine lv_iadd hx hb dX12_give_199 ?_
    refine lv_topi (fun x_99 ex_99 => ?_)
    obtain rfl : x_99 = 5 := ex_99.trans (by decide +kernel)
    have hPc := hP.sub (ws' := [(h0, .inr (12, mG q i_taped i_size i_sort i_what i_at i_end i_worth i_faultKind i_faultPlace i_got i_worked (nI dl) i_isPlanned u_73 u_74)), (q 51, .inl (E.2.1 0, 512, .inl a_least)), (q 55, .inl (E.2.1 0, 4, .inl f_97)), (q 54, .inl (E.2.1 0, 7, .inl u_76)), (q 53, .inl (E.2.1 0, 7, .inl f_89))]) [0, 1, 2, 3, 4] rfl
    have hDc := hD.sub (ws' := [(h0, .inr (12, mG q i_taped i_size i_sort i_what i_at i_end i_worth i_faultKind i_faultPlace i_got i_worked (nI dl) i_isPlanned u_73 u_74)), (q 51, .inl (E.2.1 0, 512, .inl a_least)), (q 55, .inl (E.2.1 0, 4, .inl f_97)), (q 54, .inl (E.2.1 0, 7, .inl u_76)), (q 53, .inl (E.2.1 0, 7, .inl f_89))]) [0, 1, 2, 3, 4] (by decide) rfl
    have hFc := va_free (wc := [(h0, .inr (12, mG q i_taped i_size i_sort i_what i_at i_end i_worth i_faultKind i_faultPlace i_got i_worked (nI dl) i_isPlanned u_73 u_74)), (q 51, .inl (E.2.1 0, 512, .inl a_least)), (q 55, .inl (E.2.1 0, 4, .inl f_97)), (q 54, .inl (E.2.1 0, 7, .inl u_76)), (q 53, .inl (E.2.1 0, 7, .inl f_89))]) hD hS hA [0, 1, 2, 3, 4] rfl
    refine va_callv (va_runV (As := [.int 5]) (rest := []) ⟨hx, hb, hml, hown, hts⟩ (c_X12_give5 l E h0 q i_taped i_size i_sort i_what i_at i_end i_worth i_faultKind i_faultPlace i_got i_worked i_isPlanned u_73 u_74 dl a_least f_97 u_76 f_89 H.size hdl hd2 hI_98) (cwV 1 hts gX12_give_X12_give rfl rfl rfl hdV_X12_give ⟨Nat.le_of_ble_eq_true rfl, Nat.le_of_ble_eq_true rfl⟩) ⟨pcW_blind, va_recv hK hPc (ci := 12) (q0 := 0) rfl rfl, (pcW_pre hPc hkn hDc hst hS hFc)⟩ rfl rfl hl.1 rfl (lv_room (Nat.le_of_ble_eq_true rfl)) dX12_give_200 ⟨Nat.le_of_ble_eq_true rfl, Nat.le_of_ble_eq_true rfl⟩) hS (fun q _ h => hFc q h) hFc (fun u t H1 locs ht hvm hw_101 hB hz1 hk1 hS => ?_)
    obtain ⟨u_102, u_103, u_104, u_105, u_106⟩ := u
    obtain ⟨hf_107, hP1, hD1⟩ := hB
    rw [ht] at hP1
    try dsimp only at hw_101
    obtain ⟨hP, hD⟩ := va_join (wr := []) (w1 := [(h0, .inr (12, mG q i_taped i_size i_sort i_what i_at i_end i_worth i_faultKind i_faultPlace i_got i_worked (nI dl) i_isPlanned u_102 u_103)), (q 51, .inl (E.2.1 0, 512, .inl a_least)), (q 55, .inl (E.2.1 0, 4, .inl u_104)), (q 54, .inl (E.2.1 0, 7, .inl u_105)), (q 53, .inl (E.2.1 0, 7, .inl u_106))]) hP hD [0, 1, 2, 3, 4] [] rfl rfl (by decide) (by decide) hk1 hFc hP1 hD1
    generalize H1 = H at hP hS ⊢
    have hP : va_P E.1 vwCl [(h0, .inr (12, mG q i_taped i_size i_sort i_what i_at i_end i_worth i_faultKind i_faultPlace i_got i_worked (nI dl) i_isPlanned u_102 u_103)), (q 51, .inl (E.2.1 0, 512, .inl a_least)), (q 55, .inl (E.2.1 0, 4, .inl u_104)), (q 54, .inl (E.2.1 0, 7, .inl u_105)), (q 53, .inl (E.2.1 0, 7, .inl u_106))] H := hP
    have hD : va_D A [(h0, .inr (12, mG q i_taped i_size i_sort i_what i_at i_end i_worth i_faultKind i_faultPlace i_got i_worked (nI dl) i_isPlanned u_102 u_103)), (q 51, .inl (E.2.1 0, 512, .inl a_least)), (q 55, .inl (E.2.1 0, 4, .inl u_104)), (q 54, .inl (E.2.1 0, 7, .inl u_105)), (q 53, .inl (E.2.1 0, 7, .inl u_106))] := hD
    refine lv_aload_n hx hb dX12_give_203 rfl (lv_at hl 1 rfl) ?_
    refine va_get (D := E.1) (ci := 12) (v := .ref (q 55)) (C := RX12) (T := TX12) (N := 59) hx hb hts inX12 hown hK hP 0 rfl rfl 55 (by decide) fl142 (fun _ h9 => h9) rfl dX12_give_204 ?_
    refine lv_iload_n hx hb dX12_give_207 rfl (lv_at hl 0 rfl) ?_
    refine lv_dup2_11 hx hb dX12_give_208 rfl rfl ?_
    refine va_iald hx hb hK hP 2 0 rfl rfl (show vp_in 3 4 from by unfold vp_in; decide) dX12_give_209 ?_
    refine lv_topi (fun x_108 ex_108 => ?_)
    have hv_109 : inR x_108 0 127 = true := by rw [ex_108]; exact hf_107 _ (vin_cl (show vp_in 3 4 from by unfold vp_in; decide))
    obtain ⟨w_110, hw_111, ew_112⟩ := inR_nI (n := 127) (by decide) hv_109
    subst ew_112
    refine lv_iconst (v := 1) hx hb dX12_give_210 (by decide) ?_
    refine lv_iload_n hx hb dX12_give_211 rfl (lv_at hl 2 rfl) ?_
    refine lv_ishl hx hb dX12_give_212 ?_
    refine lv_topi (fun x_113 ex_113 => ?_)
    obtain rfl : x_113 = 16 := ex_113.trans (by decide +kernel)
    refine lv_iconst (v := (-1)) hx hb dX12_give_213 (by decide) ?_
    refine lv_ixor hx hb dX12_give_214 ?_
    refine lv_topi (fun x_114 ex_114 => ?_)
    obtain rfl : x_114 = (-17) := ex_114.trans (by decide +kernel)
    refine lv_iand hx hb dX12_give_215 ?_
    refine lv_topi (fun x_115 ex_115 => ?_)
    refine va_iast hx hb hK hP hD hS 2 0 rfl rfl (show vp_in 3 4 from by unfold vp_in; decide) dX12_give_216 (fun H locs hP hD hS => ?_)
    have hP : va_P E.1 vwCl [(h0, .inr (12, mG q i_taped i_size i_sort i_what i_at i_end i_worth i_faultKind i_faultPlace i_got i_worked (nI dl) i_isPlanned u_102 u_103)), (q 51, .inl (E.2.1 0, 512, .inl a_least)), (q 55, .inl (E.2.1 0, 4, .inl (upd u_104 (Int32.toNatClampNeg 3) x_115))), (q 54, .inl (E.2.1 0, 7, .inl u_105)), (q 53, .inl (E.2.1 0, 7, .inl u_106))] H := hP
    have hD : va_D A [(h0, .inr (12, mG q i_taped i_size i_sort i_what i_at i_end i_worth i_faultKind i_faultPlace i_got i_worked (nI dl) i_isPlanned u_102 u_103)), (q 51, .inl (E.2.1 0, 512, .inl a_least)), (q 55, .inl (E.2.1 0, 4, .inl (upd u_104 (Int32.toNatClampNeg 3) x_115))), (q 54, .inl (E.2.1 0, 7, .inl u_105)), (q 53, .inl (E.2.1 0, 7, .inl u_106))] := hD
    obtain ⟨f_116, ef_116⟩ : ∃ g : Nat → Int32, g = upd u_104 (Int32.toNatClampNeg 3) x_115 := ⟨_, rfl⟩
    rw [← ef_116] at hP hD
    have hI_117 : ∀ k : Nat, k < 4 → inR (f_116 k) 0 127 = true := by rw [ef_116]; exact all_upd (P := fun z => inR z 0 127 = true) hf_107 (by rw [ex_115]; exact and_lt7 _ (by omega) 4 (by decide))
    refine lv_iinc (v := 4) (lv' := [(2, .int 4), (0, .ref h0), (1, .int 4)]) hx hb dX12_give_217 hl (k := 0) rfl (by decide) (by decide) rfl (fun ls hl => ?_)
    refine lv_goto (tgt := 172) hx hb dX12_give_220 (by decide) ?_
    refine lv_iload_n hx hb dX12_give_172 rfl (lv_at hl 0 rfl) ?_
    refine lv_iconst (v := 4) hx hb dX12_give_173 (by decide) ?_
    refine lv_icmp_ge (tgt := 223) hx hb dX12_give_174 (by decide) (fun _ => ?_) (fun c9 => absurd c9 (by decide))
    refine lv_aload_n hx hb dX12_give_223 rfl (lv_at hl 1 rfl) ?_
    refine va_get (D := E.1) (ci := 12) (v := .ref (q 53)) (C := RX12) (T := TX12) (N := 59) hx hb hts inX12 hown hK hP 0 rfl rfl 53 (by decide) fl136 (fun _ h9 => h9) rfl dX12_give_224 ?_
    refine lv_iload_n hx hb dX12_give_227 rfl (lv_at hl 2 rfl) ?_
    refine lv_iconst (v := (-1)) hx hb dX12_give_228 (by decide) ?_
    refine va_iast hx hb hK hP hD hS 4 0 rfl rfl (show vp_in 4 7 from by unfold vp_in; decide) dX12_give_229 (fun H locs hP hD hS => ?_)
    have hP : va_P E.1 vwCl [(h0, .inr (12, mG q i_taped i_size i_sort i_what i_at i_end i_worth i_faultKind i_faultPlace i_got i_worked (nI dl) i_isPlanned u_102 u_103)), (q 51, .inl (E.2.1 0, 512, .inl a_least)), (q 55, .inl (E.2.1 0, 4, .inl f_116)), (q 54, .inl (E.2.1 0, 7, .inl u_105)), (q 53, .inl (E.2.1 0, 7, .inl (upd u_106 (Int32.toNatClampNeg 4) (-1))))] H := hP
    have hD : va_D A [(h0, .inr (12, mG q i_taped i_size i_sort i_what i_at i_end i_worth i_faultKind i_faultPlace i_got i_worked (nI dl) i_isPlanned u_102 u_103)), (q 51, .inl (E.2.1 0, 512, .inl a_least)), (q 55, .inl (E.2.1 0, 4, .inl f_116)), (q 54, .inl (E.2.1 0, 7, .inl u_105)), (q 53, .inl (E.2.1 0, 7, .inl (upd u_106 (Int32.toNatClampNeg 4) (-1))))] := hD
    obtain ⟨f_118, ef_118⟩ : ∃ g : Nat → Int32, g = upd u_106 (Int32.toNatClampNeg 4) (-1) := ⟨_, rfl⟩
    rw [← ef_118] at hP hD
    refine lv_aload_n hx hb dX12_give_230 rfl (lv_at hl 1 rfl) ?_
    refine lv_iload_n hx hb dX12_give_231 rfl (lv_at hl 2 rfl) ?_
    refine lv_iconst (v := 1) hx hb dX12_give_232 (by decide) ?_
    refine lv_iadd hx hb dX12_give_233 ?_
    refine lv_topi (fun x_119 ex_119 => ?_)
    obtain rfl : x_119 = 5 := ex_119.trans (by decide +kernel)
    have hPc := hP.sub (ws' := [(h0, .inr (12, mG q i_taped i_size i_sort i_what i_at i_end i_worth i_faultKind i_faultPlace i_got i_worked (nI dl) i_isPlanned u_102 u_103)), (q 51, .inl (E.2.1 0, 512, .inl a_least)), (q 55, .inl (E.2.1 0, 4, .inl f_116)), (q 54, .inl (E.2.1 0, 7, .inl u_105)), (q 53, .inl (E.2.1 0, 7, .inl f_118))]) [0, 1, 2, 3, 4] rfl
    have hDc := hD.sub (ws' := [(h0, .inr (12, mG q i_taped i_size i_sort i_what i_at i_end i_worth i_faultKind i_faultPlace i_got i_worked (nI dl) i_isPlanned u_102 u_103)), (q 51, .inl (E.2.1 0, 512, .inl a_least)), (q 55, .inl (E.2.1 0, 4, .inl f_116)), (q 54, .inl (E.2.1 0, 7, .inl u_105)), (q 53, .inl (E.2.1 0, 7, .inl f_118))]) [0, 1, 2, 3, 4] (by decide) rfl
    have hFc := va_free (wc := [(h0, .inr (12, mG q i_taped i_size i_sort i_what i_at i_end i_worth i_faultKind i_faultPlace i_got i_worked (nI dl) i_isPlanned u_102 u_103)), (q 51, .inl (E.2.1 0, 512, .inl a_least)), (q 55, .inl (E.2.1 0, 4, .inl f_116)), (q 54, .inl (E.2.1 0, 7, .inl u_105)), (q 53, .inl (E.2.1 0, 7, .inl f_118))]) hD hS hA [0, 1, 2, 3, 4] rfl
    refine va_callv (va_runV (As := [.int 5]) (rest := []) ⟨hx, hb, hml, hown, hts⟩ (c_X12_give5 l E h0 q i_taped i_size i_sort i_what i_at i_end i_worth i_faultKind i_faultPlace i_got i_worked i_isPlanned u_102 u_103 dl a_least f_116 u_105 f_118 H.size hdl hd2 hI_117) (cwV 1 hts gX12_give_X12_give rfl rfl rfl hdV_X12_give ⟨Nat.le_of_ble_eq_true rfl, Nat.le_of_ble_eq_true rfl⟩) ⟨pcW_blind, va_recv hK hPc (ci := 12) (q0 := 0) rfl rfl, (pcW_pre hPc hkn hDc hst hS hFc)⟩ rfl rfl hl.1 rfl (lv_room (Nat.le_of_ble_eq_true rfl)) dX12_give_234 ⟨Nat.le_of_ble_eq_true rfl, Nat.le_of_ble_eq_true rfl⟩) hS (fun q _ h => hFc q h) hFc (fun u t H1 locs ht hvm hw_121 hB hz1 hk1 hS => ?_)
    obtain ⟨u_122, u_123, u_124, u_125, u_126⟩ := u
    obtain ⟨hf_127, hP1, hD1⟩ := hB
    rw [ht] at hP1
    try dsimp only at hw_121
    obtain ⟨hP, hD⟩ := va_join (wr := []) (w1 := [(h0, .inr (12, mG q i_taped i_size i_sort i_what i_at i_end i_worth i_faultKind i_faultPlace i_got i_worked (nI dl) i_isPlanned u_122 u_123)), (q 51, .inl (E.2.1 0, 512, .inl a_least)), (q 55, .inl (E.2.1 0, 4, .inl u_124)), (q 54, .inl (E.2.1 0, 7, .inl u_125)), (q 53, .inl (E.2.1 0, 7, .inl u_126))]) hP hD [0, 1, 2, 3, 4] [] rfl rfl (by decide) (by decide) hk1 hFc hP1 hD1
    generalize H1 = H at hP hS ⊢
    have hP : va_P E.1 vwCl [(h0, .inr (12, mG q i_taped i_size i_sort i_what i_at i_end i_worth i_faultKind i_faultPlace i_got i_worked (nI dl) i_isPlanned u_122 u_123)), (q 51, .inl (E.2.1 0, 512, .inl a_least)), (q 55, .inl (E.2.1 0, 4, .inl u_124)), (q 54, .inl (E.2.1 0, 7, .inl u_125)), (q 53, .inl (E.2.1 0, 7, .inl u_126))] H := hP
    have hD : va_D A [(h0, .inr (12, mG q i_taped i_size i_sort i_what i_at i_end i_worth i_faultKind i_faultPlace i_got i_worked (nI dl) i_isPlanned u_122 u_123)), (q 51, .inl (E.2.1 0, 512, .inl a_least)), (q 55, .inl (E.2.1 0, 4, .inl u_124)), (q 54, .inl (E.2.1 0, 7, .inl u_125)), (q 53, .inl (E.2.1 0, 7, .inl u_126))] := hD
    have hP9 := hP.sub (ws' := [(h0, .inr (12, mG q i_taped i_size i_sort i_what i_at i_end i_worth i_faultKind i_faultPlace i_got i_worked (nI dl) i_isPlanned u_122 u_123)), (q 51, .inl (E.2.1 0, 512, .inl a_least)), (q 55, .inl (E.2.1 0, 4, .inl u_124)), (q 54, .inl (E.2.1 0, 7, .inl u_125)), (q 53, .inl (E.2.1 0, 7, .inl u_126))]) [0, 1, 2, 3, 4] rfl
    have hD9 := hD.sub (ws' := [(h0, .inr (12, mG q i_taped i_size i_sort i_what i_at i_end i_worth i_faultKind i_faultPlace i_got i_worked (nI dl) i_isPlanned u_122 u_123)), (q 51, .inl (E.2.1 0, 512, .inl a_least)), (q 55, .inl (E.2.1 0, 4, .inl u_124)), (q 54, .inl (E.2.1 0, 7, .inl u_125)), (q 53, .inl (E.2.1 0, 7, .inl u_126))]) [0, 1, 2, 3, 4] (by decide) rfl
    exact W.vret hx hb hr (fun t ht hW => ⟨⟨(u_122, u_123, u_124, u_125, u_126), rfl, trivial, hf_127, by rw [ht]; exact hP9, hD9⟩, hS.F ht⟩) hS.2.2 dX12_give_237
  · refine lv_iconst (v := 0) hx hb dX12_give_8 (by decide) ?_
    refine lv_istore_n (lv' := [(2, .int 0), (0, .ref h0), (1, .int 4)]) hx hb dX12_give_9 rfl hl (by decide) rfl (fun ls hl => ?_)
    refine lv_iconst (v := 0) hx hb dX12_give_10 (by decide) ?_
    refine lv_istore_n (lv' := [(3, .int 0), (2, .int 0), (0, .ref h0), (1, .int 4)]) hx hb dX12_give_11 rfl hl (by decide) rfl (fun ls hl => ?_)
    refine lv_iconst (v := 0) hx hb dX12_give_12 (by decide) ?_
    refine lv_istore (lv' := [(4, .int 0), (3, .int 0), (2, .int 0), (0, .ref h0), (1, .int 4)]) hx hb dX12_give_13 hl (by decide) rfl (fun ls hl => ?_)
    refine lv_iload hx hb dX12_give_15 (lv_at hl 0 rfl) ?_
    refine lv_iconst (v := 4) hx hb dX12_give_17 (by decide) ?_
    refine lv_icmp_ge (tgt := 102) hx hb dX12_give_18 (by decide) (fun c9 => absurd c9 (by decide)) (fun _ => ?_)
    refine lv_aload_n hx hb dX12_give_21 rfl (lv_at hl 3 rfl) ?_
    refine va_get (D := E.1) (ci := 12) (v := .ref (q 51)) (C := RX12) (T := TX12) (N := 59) hx hb hts inX12 hown hK hP 0 rfl rfl 51 (by decide) fl130 (fun _ h9 => h9) rfl dX12_give_22 ?_
    refine lv_sipush (v := 128) hx hb dX12_give_25 (by decide) ?_
    refine lv_iload hx hb dX12_give_28 (lv_at hl 0 rfl) ?_
    refine lv_imul hx hb dX12_give_30 ?_
    refine lv_topi (fun x_128 ex_128 => ?_)
    obtain rfl : x_128 = 0 := ex_128.trans (by decide +kernel)
    refine lv_aload_n hx hb dX12_give_31 rfl (lv_at hl 3 rfl) ?_
    refine va_get (D := E.1) (ci := 12) (v := .ref (q 55)) (C := RX12) (T := TX12) (N := 59) hx hb hts inX12 hown hK hP 0 rfl rfl 55 (by decide) fl142 (fun _ h9 => h9) rfl dX12_give_32 ?_
    refine lv_iload hx hb dX12_give_35 (lv_at hl 0 rfl) ?_
    refine va_iald hx hb hK hP 2 0 rfl rfl (show vp_in 0 4 from by unfold vp_in; decide) dX12_give_37 ?_
    refine lv_topi (fun x_129 ex_129 => ?_)
    have hv_130 : inR x_129 0 127 = true := by rw [ex_129]; exact hI_sets _ (vin_cl (show vp_in 0 4 from by unfold vp_in; decide))
    obtain ⟨w_131, hw_132, ew_133⟩ := inR_nI (n := 127) (by decide) hv_130
    subst ew_133
    refine lv_iadd hx hb dX12_give_38 ?_
    refine lv_topi (fun x_134 ex_134 => ?_)
    obtain rfl : x_134 = nI (0 + w_131) := ex_134.trans (nI_add 0 w_131)
    have hi_135 : vp_in (nI (0 + w_131)) 512 := vp_in_nI (by omega) (by decide)
    refine va_iald hx hb hK hP 1 0 rfl rfl hi_135 dX12_give_39 ?_
    refine lv_topi (fun x_136 ex_136 => ?_)
    refine lv_iconst (v := (-1)) hx hb dX12_give_40 (by decide) ?_
    refine lv_icmp_ne (tgt := 45) hx hb dX12_give_41 (by decide) (fun c_137 => ?_) (fun c_137 => ?_)
    · refine lv_iload_n hx hb dX12_give_45 rfl (lv_at hl 1 rfl) ?_
      refine lv_aload_n hx hb dX12_give_46 rfl (lv_at hl 3 rfl) ?_
      refine va_get (D := E.1) (ci := 12) (v := .ref (q 51)) (C := RX12) (T := TX12) (N := 59) hx hb hts inX12 hown hK hP 0 rfl rfl 51 (by decide) fl130 (fun _ h9 => h9) rfl dX12_give_47 ?_
      refine lv_sipush (v := 128) hx hb dX12_give_50 (by decide) ?_
      refine lv_iload hx hb dX12_give_53 (lv_at hl 0 rfl) ?_
      refine lv_imul hx hb dX12_give_55 ?_
      refine lv_topi (fun x_138 ex_138 => ?_)
      obtain rfl : x_138 = 0 := ex_138.trans (by decide +kernel)
      refine lv_aload_n hx hb dX12_give_56 rfl (lv_at hl 3 rfl) ?_
      refine va_get (D := E.1) (ci := 12) (v := .ref (q 55)) (C := RX12) (T := TX12) (N := 59) hx hb hts inX12 hown hK hP 0 rfl rfl 55 (by decide) fl142 (fun _ h9 => h9) rfl dX12_give_57 ?_
      refine lv_iload hx hb dX12_give_60 (lv_at hl 0 rfl) ?_
      refine va_iald hx hb hK hP 2 0 rfl rfl (show vp_in 0 4 from by unfold vp_in; decide) dX12_give_62 ?_
      refine lv_topi (fun x_139 ex_139 => ?_)
      obtain rfl : x_139 = nI w_131 := ex_139.trans ex_129.symm
      refine lv_iadd hx hb dX12_give_63 ?_
      refine lv_topi (fun x_140 ex_140 => ?_)
      obtain rfl : x_140 = nI (0 + w_131) := ex_140.trans (nI_add 0 w_131)
      refine va_iald hx hb hK hP 1 0 rfl rfl hi_135 dX12_give_64 ?_
      refine lv_topi (fun x_141 ex_141 => ?_)
      refine lv_iadd hx hb dX12_give_65 ?_
      refine lv_topi (fun x_142 ex_142 => ?_)
      refine lv_istore_n (lv' := [(3, .int x_142), (4, .int 0), (2, .int 0), (0, .ref h0), (1, .int 4)]) hx hb dX12_give_66 rfl hl (by decide) rfl (fun ls hl => ?_)
      refine lv_aload_n hx hb dX12_give_67 rfl (lv_at hl 3 rfl) ?_
      refine va_get (D := E.1) (ci := 12) (v := .ref (q 55)) (C := RX12) (T := TX12) (N := 59) hx hb hts inX12 hown hK hP 0 rfl rfl 55 (by decide) fl142 (fun _ h9 => h9) rfl dX12_give_68 ?_
      refine lv_iload hx hb dX12_give_71 (lv_at hl 1 rfl) ?_
      refine va_iald hx hb hK hP 2 0 rfl rfl (show vp_in 0 4 from by unfold vp_in; decide) dX12_give_73 ?_
      refine lv_topi (fun x_143 ex_143 => ?_)
      obtain rfl : x_143 = nI w_131 := ex_143.trans ex_129.symm
      refine lv_istore (lv' := [(5, .int (nI w_131)), (3, .int x_142), (4, .int 0), (2, .int 0), (0, .ref h0), (1, .int 4)]) hx hb dX12_give_74 hl (by decide) rfl (fun ls hl => ?_)
      have hPl := hP.sub (ws' := [(h0, .inr (12, mG q i_taped i_size i_sort i_what i_at i_end i_worth i_faultKind i_faultPlace i_got i_worked (nI dl) i_isPlanned i_bestDone i_bestCost)), (q 51, .inl (E.2.1 0, 512, .inl a_least)), (q 55, .inl (E.2.1 0, 4, .inl a_sets)), (q 54, .inl (E.2.1 0, 7, .inl a_bestGiven)), (q 53, .inl (E.2.1 0, 7, .inl a_given))]) [0, 1, 2, 3, 4] rfl
      have hDl := hD.sub (ws' := [(h0, .inr (12, mG q i_taped i_size i_sort i_what i_at i_end i_worth i_faultKind i_faultPlace i_got i_worked (nI dl) i_isPlanned i_bestDone i_bestCost)), (q 51, .inl (E.2.1 0, 512, .inl a_least)), (q 55, .inl (E.2.1 0, 4, .inl a_sets)), (q 54, .inl (E.2.1 0, 7, .inl a_bestGiven)), (q 53, .inl (E.2.1 0, 7, .inl a_given))]) [0, 1, 2, 3, 4] (by decide) rfl
      refine lm_bits E h0 q i_taped i_size i_sort i_what i_at i_end i_worth i_faultKind i_faultPlace i_got i_worked i_isPlanned i_bestDone i_bestCost dl x_142 0 ([(q 51, .inl (E.2.1 0, 512, .inl a_least)), (q 55, .inl (E.2.1 0, 4, .inl a_sets)), (q 54, .inl (E.2.1 0, 7, .inl a_bestGiven)), (q 53, .inl (E.2.1 0, 7, .inl a_given))]) hx hb hml hown hts hkn hst hA  (fun n_144 H locs ls  hP hD hS hl => ?_) (w_131 + 1) w_131 0 _ _ _ (Nat.lt_succ_self _) hPl hDl hS (lv_sub hl [4, 3, 1, 2, 0] rfl)
      have hP : va_P E.1 vwCl [(h0, .inr (12, mG q i_taped i_size i_sort i_what i_at i_end i_worth i_faultKind i_faultPlace i_got i_worked (nI dl) i_isPlanned i_bestDone i_bestCost)), (q 51, .inl (E.2.1 0, 512, .inl a_least)), (q 55, .inl (E.2.1 0, 4, .inl a_sets)), (q 54, .inl (E.2.1 0, 7, .inl a_bestGiven)), (q 53, .inl (E.2.1 0, 7, .inl a_given))] H := hP
      have hD : va_D A [(h0, .inr (12, mG q i_taped i_size i_sort i_what i_at i_end i_worth i_faultKind i_faultPlace i_got i_worked (nI dl) i_isPlanned i_bestDone i_bestCost)), (q 51, .inl (E.2.1 0, 512, .inl a_least)), (q 55, .inl (E.2.1 0, 4, .inl a_sets)), (q 54, .inl (E.2.1 0, 7, .inl a_bestGiven)), (q 53, .inl (E.2.1 0, 7, .inl a_given))] := hD
      refine lv_iinc (v := 1) (lv' := [(4, .int 1), (0, .ref h0), (2, .int n_144), (3, .int x_142)]) hx hb dX12_give_96 hl (k := 3) rfl (by decide) (by decide) rfl (fun ls hl => ?_)
      refine lv_goto (tgt := 15) hx hb dX12_give_99 (by decide) ?_
      refine lv_iload hx hb dX12_give_15 (lv_at hl 0 rfl) ?_
      refine lv_iconst (v := 4) hx hb dX12_give_17 (by decide) ?_
      refine lv_icmp_ge (tgt := 102) hx hb dX12_give_18 (by decide) (fun c9 => absurd c9 (by decide)) (fun _ => ?_)
      refine lv_aload_n hx hb dX12_give_21 rfl (lv_at hl 1 rfl) ?_
      refine va_get (D := E.1) (ci := 12) (v := .ref (q 51)) (C := RX12) (T := TX12) (N := 59) hx hb hts inX12 hown hK hP 0 rfl rfl 51 (by decide) fl130 (fun _ h9 => h9) rfl dX12_give_22 ?_
      refine lv_sipush (v := 128) hx hb dX12_give_25 (by decide) ?_
      refine lv_iload hx hb dX12_give_28 (lv_at hl 0 rfl) ?_
      refine lv_imul hx hb dX12_give_30 ?_
      refine lv_topi (fun x_145 ex_145 => ?_)
      obtain rfl : x_145 = 128 := ex_145.trans (by decide +kernel)
      refine lv_aload_n hx hb dX12_give_31 rfl (lv_at hl 1 rfl) ?_
      refine va_get (D := E.1) (ci := 12) (v := .ref (q 55)) (C := RX12) (T := TX12) (N := 59) hx hb hts inX12 hown hK hP 0 rfl rfl 55 (by decide) fl142 (fun _ h9 => h9) rfl dX12_give_32 ?_
      refine lv_iload hx hb dX12_give_35 (lv_at hl 0 rfl) ?_
      refine va_iald hx hb hK hP 2 0 rfl rfl (show vp_in 1 4 from by unfold vp_in; decide) dX12_give_37 ?_
      refine lv_topi (fun x_146 ex_146 => ?_)
      have hv_147 : inR x_146 0 127 = true := by rw [ex_146]; exact hI_sets _ (vin_cl (show vp_in 1 4 from by unfold vp_in; decide))
      obtain ⟨w_148, hw_149, ew_150⟩ := inR_nI (n := 127) (by decide) hv_147
      subst ew_150
      refine lv_iadd hx hb dX12_give_38 ?_
      refine lv_topi (fun x_151 ex_151 => ?_)
      obtain rfl : x_151 = nI (128 + w_148) := ex_151.trans (nI_add 128 w_148)
      have hi_152 : vp_in (nI (128 + w_148)) 512 := vp_in_nI (by omega) (by decide)
      refine va_iald hx hb hK hP 1 0 rfl rfl hi_152 dX12_give_39 ?_
      refine lv_topi (fun x_153 ex_153 => ?_)
      refine lv_iconst (v := (-1)) hx hb dX12_give_40 (by decide) ?_
      refine lv_icmp_ne (tgt := 45) hx hb dX12_give_41 (by decide) (fun c_154 => ?_) (fun c_154 => ?_)
      · refine lv_iload_n hx hb dX12_give_45 rfl (lv_at hl 3 rfl) ?_
        refine lv_aload_n hx hb dX12_give_46 rfl (lv_at hl 1 rfl) ?_
        refine va_get (D := E.1) (ci := 12) (v := .ref (q 51)) (C := RX12) (T := TX12) (N := 59) hx hb hts inX12 hown hK hP 0 rfl rfl 51 (by decide) fl130 (fun _ h9 => h9) rfl dX12_give_47 ?_
        refine lv_sipush (v := 128) hx hb dX12_give_50 (by decide) ?_
        refine lv_iload hx hb dX12_give_53 (lv_at hl 0 rfl) ?_
        refine lv_imul hx hb dX12_give_55 ?_
        refine lv_topi (fun x_155 ex_155 => ?_)
        obtain rfl : x_155 = 128 := ex_155.trans (by decide +kernel)
        refine lv_aload_n hx hb dX12_give_56 rfl (lv_at hl 1 rfl) ?_
        refine va_get (D := E.1) (ci := 12) (v := .ref (q 55)) (C := RX12) (T := TX12) (N := 59) hx hb hts inX12 hown hK hP 0 rfl rfl 55 (by decide) fl142 (fun _ h9 => h9) rfl dX12_give_57 ?_
        refine lv_iload hx hb dX12_give_60 (lv_at hl 0 rfl) ?_
        refine va_iald hx hb hK hP 2 0 rfl rfl (show vp_in 1 4 from by unfold vp_in; decide) dX12_give_62 ?_
        refine lv_topi (fun x_156 ex_156 => ?_)
        obtain rfl : x_156 = nI w_148 := ex_156.trans ex_146.symm
        refine lv_iadd hx hb dX12_give_63 ?_
        refine lv_topi (fun x_157 ex_157 => ?_)
        obtain rfl : x_157 = nI (128 + w_148) := ex_157.trans (nI_add 128 w_148)
        refine va_iald hx hb hK hP 1 0 rfl rfl hi_152 dX12_give_64 ?_
        refine lv_topi (fun x_158 ex_158 => ?_)
        refine lv_iadd hx hb dX12_give_65 ?_
        refine lv_topi (fun x_159 ex_159 => ?_)
        refine lv_istore_n (lv' := [(3, .int x_159), (4, .int 1), (0, .ref h0), (2, .int n_144)]) hx hb dX12_give_66 rfl hl (by decide) rfl (fun ls hl => ?_)
        refine lv_aload_n hx hb dX12_give_67 rfl (lv_at hl 2 rfl) ?_
        refine va_get (D := E.1) (ci := 12) (v := .ref (q 55)) (C := RX12) (T := TX12) (N := 59) hx hb hts inX12 hown hK hP 0 rfl rfl 55 (by decide) fl142 (fun _ h9 => h9) rfl dX12_give_68 ?_
        refine lv_iload hx hb dX12_give_71 (lv_at hl 1 rfl) ?_
        refine va_iald hx hb hK hP 2 0 rfl rfl (show vp_in 1 4 from by unfold vp_in; decide) dX12_give_73 ?_
        refine lv_topi (fun x_160 ex_160 => ?_)
        obtain rfl : x_160 = nI w_148 := ex_160.trans ex_146.symm
        refine lv_istore (lv' := [(5, .int (nI w_148)), (3, .int x_159), (4, .int 1), (0, .ref h0), (2, .int n_144)]) hx hb dX12_give_74 hl (by decide) rfl (fun ls hl => ?_)
        have hPl := hP.sub (ws' := [(h0, .inr (12, mG q i_taped i_size i_sort i_what i_at i_end i_worth i_faultKind i_faultPlace i_got i_worked (nI dl) i_isPlanned i_bestDone i_bestCost)), (q 51, .inl (E.2.1 0, 512, .inl a_least)), (q 55, .inl (E.2.1 0, 4, .inl a_sets)), (q 54, .inl (E.2.1 0, 7, .inl a_bestGiven)), (q 53, .inl (E.2.1 0, 7, .inl a_given))]) [0, 1, 2, 3, 4] rfl
        have hDl := hD.sub (ws' := [(h0, .inr (12, mG q i_taped i_size i_sort i_what i_at i_end i_worth i_faultKind i_faultPlace i_got i_worked (nI dl) i_isPlanned i_bestDone i_bestCost)), (q 51, .inl (E.2.1 0, 512, .inl a_least)), (q 55, .inl (E.2.1 0, 4, .inl a_sets)), (q 54, .inl (E.2.1 0, 7, .inl a_bestGiven)), (q 53, .inl (E.2.1 0, 7, .inl a_given))]) [0, 1, 2, 3, 4] (by decide) rfl
        refine lm_bits E h0 q i_taped i_size i_sort i_what i_at i_end i_worth i_faultKind i_faultPlace i_got i_worked i_isPlanned i_bestDone i_bestCost dl x_159 1 ([(q 51, .inl (E.2.1 0, 512, .inl a_least)), (q 55, .inl (E.2.1 0, 4, .inl a_sets)), (q 54, .inl (E.2.1 0, 7, .inl a_bestGiven)), (q 53, .inl (E.2.1 0, 7, .inl a_given))]) hx hb hml hown hts hkn hst hA  (fun n_161 H locs ls  hP hD hS hl => ?_) (w_148 + 1) w_148 n_144 _ _ _ (Nat.lt_succ_self _) hPl hDl hS (lv_sub hl [3, 4, 1, 2, 0] rfl)
        have hP : va_P E.1 vwCl [(h0, .inr (12, mG q i_taped i_size i_sort i_what i_at i_end i_worth i_faultKind i_faultPlace i_got i_worked (nI dl) i_isPlanned i_bestDone i_bestCost)), (q 51, .inl (E.2.1 0, 512, .inl a_least)), (q 55, .inl (E.2.1 0, 4, .inl a_sets)), (q 54, .inl (E.2.1 0, 7, .inl a_bestGiven)), (q 53, .inl (E.2.1 0, 7, .inl a_given))] H := hP
        have hD : va_D A [(h0, .inr (12, mG q i_taped i_size i_sort i_what i_at i_end i_worth i_faultKind i_faultPlace i_got i_worked (nI dl) i_isPlanned i_bestDone i_bestCost)), (q 51, .inl (E.2.1 0, 512, .inl a_least)), (q 55, .inl (E.2.1 0, 4, .inl a_sets)), (q 54, .inl (E.2.1 0, 7, .inl a_bestGiven)), (q 53, .inl (E.2.1 0, 7, .inl a_given))] := hD
        refine lv_iinc (v := 2) (lv' := [(4, .int 2), (0, .ref h0), (2, .int n_161), (3, .int x_159)]) hx hb dX12_give_96 hl (k := 3) rfl (by decide) (by decide) rfl (fun ls hl => ?_)
        refine lv_goto (tgt := 15) hx hb dX12_give_99 (by decide) ?_
        refine lv_iload hx hb dX12_give_15 (lv_at hl 0 rfl) ?_
        refine lv_iconst (v := 4) hx hb dX12_give_17 (by decide) ?_
        refine lv_icmp_ge (tgt := 102) hx hb dX12_give_18 (by decide) (fun c9 => absurd c9 (by decide)) (fun _ => ?_)
        refine lv_aload_n hx hb dX12_give_21 rfl (lv_at hl 1 rfl) ?_
        refine va_get (D := E.1) (ci := 12) (v := .ref (q 51)) (C := RX12) (T := TX12) (N := 59) hx hb hts inX12 hown hK hP 0 rfl rfl 51 (by decide) fl130 (fun _ h9 => h9) rfl dX12_give_22 ?_
        refine lv_sipush (v := 128) hx hb dX12_give_25 (by decide) ?_
        refine lv_iload hx hb dX12_give_28 (lv_at hl 0 rfl) ?_
        refine lv_imul hx hb dX12_give_30 ?_
        refine lv_topi (fun x_162 ex_162 => ?_)
        obtain rfl : x_162 = 256 := ex_162.trans (by decide +kernel)
        refine lv_aload_n hx hb dX12_give_31 rfl (lv_at hl 1 rfl) ?_
        refine va_get (D := E.1) (ci := 12) (v := .ref (q 55)) (C := RX12) (T := TX12) (N := 59) hx hb hts inX12 hown hK hP 0 rfl rfl 55 (by decide) fl142 (fun _ h9 => h9) rfl dX12_give_32 ?_
        refine lv_iload hx hb dX12_give_35 (lv_at hl 0 rfl) ?_
        refine va_iald hx hb hK hP 2 0 rfl rfl (show vp_in 2 4 from by unfold vp_in; decide) dX12_give_37 ?_
        refine lv_topi (fun x_163 ex_163 => ?_)
        have hv_164 : inR x_163 0 127 = true := by rw [ex_163]; exact hI_sets _ (vin_cl (show vp_in 2 4 from by unfold vp_in; decide))
        obtain ⟨w_165, hw_166, ew_167⟩ := inR_nI (n := 127) (by decide) hv_164
        subst ew_167
        refine lv_iadd hx hb dX12_give_38 ?_
        refine lv_topi (fun x_168 ex_168 => ?_)
        obtain rfl : x_168 = nI (256 + w_165) := ex_168.trans (nI_add 256 w_165)
        have hi_169 : vp_in (nI (256 + w_165)) 512 := vp_in_nI (by omega) (by decide)
        refine va_iald hx hb hK hP 1 0 rfl rfl hi_169 dX12_give_39 ?_
        refine lv_topi (fun x_170 ex_170 => ?_)
        refine lv_iconst (v := (-1)) hx hb dX12_give_40 (by decide) ?_
        refine lv_icmp_ne (tgt := 45) hx hb dX12_give_41 (by decide) (fun c_171 => ?_) (fun c_171 => ?_)
        · refine lv_iload_n hx hb dX12_give_45 rfl (lv_at hl 3 rfl) ?_
          refine lv_aload_n hx hb dX12_give_46 rfl (lv_at hl 1 rfl) ?_
          refine va_get (D := E.1) (ci := 12) (v := .ref (q 51)) (C := RX12) (T := TX12) (N := 59) hx hb hts inX12 hown hK hP 0 rfl rfl 51 (by decide) fl130 (fun _ h9 => h9) rfl dX12_give_47 ?_
          refine lv_sipush (v := 128) hx hb dX12_give_50 (by decide) ?_
          refine lv_iload hx hb dX12_give_53 (lv_at hl 0 rfl) ?_
          refine lv_imul hx hb dX12_give_55 ?_
          refine lv_topi (fun x_172 ex_172 => ?_)
          obtain rfl : x_172 = 256 := ex_172.trans (by decide +kernel)
          refine lv_aload_n hx hb dX12_give_56 rfl (lv_at hl 1 rfl) ?_
          refine va_get (D := E.1) (ci := 12) (v := .ref (q 55)) (C := RX12) (T := TX12) (N := 59) hx hb hts inX12 hown hK hP 0 rfl rfl 55 (by decide) fl142 (fun _ h9 => h9) rfl dX12_give_57 ?_
          refine lv_iload hx hb dX12_give_60 (lv_at hl 0 rfl) ?_
          refine va_iald hx hb hK hP 2 0 rfl rfl (show vp_in 2 4 from by unfold vp_in; decide) dX12_give_62 ?_
          refine lv_topi (fun x_173 ex_173 => ?_)
          obtain rfl : x_173 = nI w_165 := ex_173.trans ex_163.symm
          refine lv_iadd hx hb dX12_give_63 ?_
          refine lv_topi (fun x_174 ex_174 => ?_)
          obtain rfl : x_174 = nI (256 + w_165) := ex_174.trans (nI_add 256 w_165)
          refine va_iald hx hb hK hP 1 0 rfl rfl hi_169 dX12_give_64 ?_
          refine lv_topi (fun x_175 ex_175 => ?_)
          refine lv_iadd hx hb dX12_give_65 ?_
          refine lv_topi (fun x_176 ex_176 => ?_)
          refine lv_istore_n (lv' := [(3, .int x_176), (4, .int 2), (0, .ref h0), (2, .int n_161)]) hx hb dX12_give_66 rfl hl (by decide) rfl (fun ls hl => ?_)
          refine lv_aload_n hx hb dX12_give_67 rfl (lv_at hl 2 rfl) ?_
          refine va_get (D := E.1) (ci := 12) (v := .ref (q 55)) (C := RX12) (T := TX12) (N := 59) hx hb hts inX12 hown hK hP 0 rfl rfl 55 (by decide) fl142 (fun _ h9 => h9) rfl dX12_give_68 ?_
          refine lv_iload hx hb dX12_give_71 (lv_at hl 1 rfl) ?_
          refine va_iald hx hb hK hP 2 0 rfl rfl (show vp_in 2 4 from by unfold vp_in; decide) dX12_give_73 ?_
          refine lv_topi (fun x_177 ex_177 => ?_)
          obtain rfl : x_177 = nI w_165 := ex_177.trans ex_163.symm
          refine lv_istore (lv' := [(5, .int (nI w_165)), (3, .int x_176), (4, .int 2), (0, .ref h0), (2, .int n_161)]) hx hb dX12_give_74 hl (by decide) rfl (fun ls hl => ?_)
          have hPl := hP.sub (ws' := [(h0, .inr (12, mG q i_taped i_size i_sort i_what i_at i_end i_worth i_faultKind i_faultPlace i_got i_worked (nI dl) i_isPlanned i_bestDone i_bestCost)), (q 51, .inl (E.2.1 0, 512, .inl a_least)), (q 55, .inl (E.2.1 0, 4, .inl a_sets)), (q 54, .inl (E.2.1 0, 7, .inl a_bestGiven)), (q 53, .inl (E.2.1 0, 7, .inl a_given))]) [0, 1, 2, 3, 4] rfl
          have hDl := hD.sub (ws' := [(h0, .inr (12, mG q i_taped i_size i_sort i_what i_at i_end i_worth i_faultKind i_faultPlace i_got i_worked (nI dl) i_isPlanned i_bestDone i_bestCost)), (q 51, .inl (E.2.1 0, 512, .inl a_least)), (q 55, .inl (E.2.1 0, 4, .inl a_sets)), (q 54, .inl (E.2.1 0, 7, .inl a_bestGiven)), (q 53, .inl (E.2.1 0, 7, .inl a_given))]) [0, 1, 2, 3, 4] (by decide) rfl
          refine lm_bits E h0 q i_taped i_size i_sort i_what i_at i_end i_worth i_faultKind i_faultPlace i_got i_worked i_isPlanned i_bestDone i_bestCost dl x_176 2 ([(q 51, .inl (E.2.1 0, 512, .inl a_least)), (q 55, .inl (E.2.1 0, 4, .inl a_sets)), (q 54, .inl (E.2.1 0, 7, .inl a_bestGiven)), (q 53, .inl (E.2.1 0, 7, .inl a_given))]) hx hb hml hown hts hkn hst hA  (fun n_178 H locs ls  hP hD hS hl => ?_) (w_165 + 1) w_165 n_161 _ _ _ (Nat.lt_succ_self _) hPl hDl hS (lv_sub hl [3, 4, 1, 2, 0] rfl)
          have hP : va_P E.1 vwCl [(h0, .inr (12, mG q i_taped i_size i_sort i_what i_at i_end i_worth i_faultKind i_faultPlace i_got i_worked (nI dl) i_isPlanned i_bestDone i_bestCost)), (q 51, .inl (E.2.1 0, 512, .inl a_least)), (q 55, .inl (E.2.1 0, 4, .inl a_sets)), (q 54, .inl (E.2.1 0, 7, .inl a_bestGiven)), (q 53, .inl (E.2.1 0, 7, .inl a_given))] H := hP
          have hD : va_D A [(h0, .inr (12, mG q i_taped i_size i_sort i_what i_at i_end i_worth i_faultKind i_faultPlace i_got i_worked (nI dl) i_isPlanned i_bestDone i_bestCost)), (q 51, .inl (E.2.1 0, 512, .inl a_least)), (q 55, .inl (E.2.1 0, 4, .inl a_sets)), (q 54, .inl (E.2.1 0, 7, .inl a_bestGiven)), (q 53, .inl (E.2.1 0, 7, .inl a_given))] := hD
          refine lv_iinc (v := 3) (lv' := [(4, .int 3), (0, .ref h0), (2, .int n_178), (3, .int x_176)]) hx hb dX12_give_96 hl (k := 3) rfl (by decide) (by decide) rfl (fun ls hl => ?_)
          refine lv_goto (tgt := 15) hx hb dX12_give_99 (by decide) ?_
          refine lv_iload hx hb dX12_give_15 (lv_at hl 0 rfl) ?_
          refine lv_iconst (v := 4) hx hb dX12_give_17 (by decide) ?_
          refine lv_icmp_ge (tgt := 102) hx hb dX12_give_18 (by decide) (fun c9 => absurd c9 (by decide)) (fun _ => ?_)
          refine lv_aload_n hx hb dX12_give_21 rfl (lv_at hl 1 rfl) ?_
          refine va_get (D := E.1) (ci := 12) (v := .ref (q 51)) (C := RX12) (T := TX12) (N := 59) hx hb hts inX12 hown hK hP 0 rfl rfl 51 (by decide) fl130 (fun _ h9 => h9) rfl dX12_give_22 ?_
          refine lv_sipush (v := 128) hx hb dX12_give_25 (by decide) ?_
          refine lv_iload hx hb dX12_give_28 (lv_at hl 0 rfl) ?_
          refine lv_imul hx hb dX12_give_30 ?_
          refine lv_topi (fun x_179 ex_179 => ?_)
          obtain rfl : x_179 = 384 := ex_179.trans (by decide +kernel)
          refine lv_aload_n hx hb dX12_give_31 rfl (lv_at hl 1 rfl) ?_
          refine va_get (D := E.1) (ci := 12) (v := .ref (q 55)) (C := RX12) (T := TX12) (N := 59) hx hb hts inX12 hown hK hP 0 rfl rfl 55 (by decide) fl142 (fun _ h9 => h9) rfl dX12_give_32 ?_
          refine lv_iload hx hb dX12_give_35 (lv_at hl 0 rfl) ?_
          refine va_iald hx hb hK hP 2 0 rfl rfl (show vp_in 3 4 from by unfold vp_in; decide) dX12_give_37 ?_
          refine lv_topi (fun x_180 ex_180 => ?_)
          have hv_181 : inR x_180 0 127 = true := by rw [ex_180]; exact hI_sets _ (vin_cl (show vp_in 3 4 from by unfold vp_in; decide))
          obtain ⟨w_182, hw_183, ew_184⟩ := inR_nI (n := 127) (by decide) hv_181
          subst ew_184
          refine lv_iadd hx hb dX12_give_38 ?_
          refine lv_topi (fun x_185 ex_185 => ?_)
          obtain rfl : x_185 = nI (384 + w_182) := ex_185.trans (nI_add 384 w_182)
          have hi_186 : vp_in (nI (384 + w_182)) 512 := vp_in_nI (by omega) (by decide)
          refine va_iald hx hb hK hP 1 0 rfl rfl hi_186 dX12_give_39 ?_
          refine lv_topi (fun x_187 ex_187 => ?_)
          refine lv_iconst (v := (-1)) hx hb dX12_give_40 (by decide) ?_
          refine lv_icmp_ne (tgt := 45) hx hb dX12_give_41 (by decide) (fun c_188 => ?_) (fun c_188 => ?_)
          · refine lv_iload_n hx hb dX12_give_45 rfl (lv_at hl 3 rfl) ?_
            refine lv_aload_n hx hb dX12_give_46 rfl (lv_at hl 1 rfl) ?_
            refine va_get (D := E.1) (ci := 12) (v := .ref (q 51)) (C := RX12) (T := TX12) (N := 59) hx hb hts inX12 hown hK hP 0 rfl rfl 51 (by decide) fl130 (fun _ h9 => h9) rfl dX12_give_47 ?_
            refine lv_sipush (v := 128) hx hb dX12_give_50 (by decide) ?_
            refine lv_iload hx hb dX12_give_53 (lv_at hl 0 rfl) ?_
            refine lv_imul hx hb dX12_give_55 ?_
            refine lv_topi (fun x_189 ex_189 => ?_)
            obtain rfl : x_189 = 384 := ex_189.trans (by decide +kernel)
            refine lv_aload_n hx hb dX12_give_56 rfl (lv_at hl 1 rfl) ?_
            refine va_get (D := E.1) (ci := 12) (v := .ref (q 55)) (C := RX12) (T := TX12) (N := 59) hx hb hts inX12 hown hK hP 0 rfl rfl 55 (by decide) fl142 (fun _ h9 => h9) rfl dX12_give_57 ?_
            refine lv_iload hx hb dX12_give_60 (lv_at hl 0 rfl) ?_
            refine va_iald hx hb hK hP 2 0 rfl rfl (show vp_in 3 4 from by unfold vp_in; decide) dX12_give_62 ?_
            refine lv_topi (fun x_190 ex_190 => ?_)
            obtain rfl : x_190 = nI w_182 := ex_190.trans ex_180.symm
            refine lv_iadd hx hb dX12_give_63 ?_
            refine lv_topi (fun x_191 ex_191 => ?_)
            obtain rfl : x_191 = nI (384 + w_182) := ex_191.trans (nI_add 384 w_182)
            refine va_iald hx hb hK hP 1 0 rfl rfl hi_186 dX12_give_64 ?_
            refine lv_topi (fun x_192 ex_192 => ?_)
            refine lv_iadd hx hb dX12_give_65 ?_
            refine lv_topi (fun x_193 ex_193 => ?_)
            refine lv_istore_n (lv' := [(3, .int x_193), (4, .int 3), (0, .ref h0), (2, .int n_178)]) hx hb dX12_give_66 rfl hl (by decide) rfl (fun ls hl => ?_)
            refine lv_aload_n hx hb dX12_give_67 rfl (lv_at hl 2 rfl) ?_
            refine va_get (D := E.1) (ci := 12) (v := .ref (q 55)) (C := RX12) (T := TX12) (N := 59) hx hb hts inX12 hown hK hP 0 rfl rfl 55 (by decide) fl142 (fun _ h9 => h9) rfl dX12_give_68 ?_
            refine lv_iload hx hb dX12_give_71 (lv_at hl 1 rfl) ?_
            refine va_iald hx hb hK hP 2 0 rfl rfl (show vp_in 3 4 from by unfold vp_in; decide) dX12_give_73 ?_
            refine lv_topi (fun x_194 ex_194 => ?_)
            obtain rfl : x_194 = nI w_182 := ex_194.trans ex_180.symm
            refine lv_istore (lv' := [(5, .int (nI w_182)), (3, .int x_193), (4, .int 3), (0, .ref h0), (2, .int n_178)]) hx hb dX12_give_74 hl (by decide) rfl (fun ls hl => ?_)
            have hPl := hP.sub (ws' := [(h0, .inr (12, mG q i_taped i_size i_sort i_what i_at i_end i_worth i_faultKind i_faultPlace i_got i_worked (nI dl) i_isPlanned i_bestDone i_bestCost)), (q 51, .inl (E.2.1 0, 512, .inl a_least)), (q 55, .inl (E.2.1 0, 4, .inl a_sets)), (q 54, .inl (E.2.1 0, 7, .inl a_bestGiven)), (q 53, .inl (E.2.1 0, 7, .inl a_given))]) [0, 1, 2, 3, 4] rfl
            have hDl := hD.sub (ws' := [(h0, .inr (12, mG q i_taped i_size i_sort i_what i_at i_end i_worth i_faultKind i_faultPlace i_got i_worked (nI dl) i_isPlanned i_bestDone i_bestCost)), (q 51, .inl (E.2.1 0, 512, .inl a_least)), (q 55, .inl (E.2.1 0, 4, .inl a_sets)), (q 54, .inl (E.2.1 0, 7, .inl a_bestGiven)), (q 53, .inl (E.2.1 0, 7, .inl a_given))]) [0, 1, 2, 3, 4] (by decide) rfl
            refine lm_bits E h0 q i_taped i_size i_sort i_what i_at i_end i_worth i_faultKind i_faultPlace i_got i_worked i_isPlanned i_bestDone i_bestCost dl x_193 3 ([(q 51, .inl (E.2.1 0, 512, .inl a_least)), (q 55, .inl (E.2.1 0, 4, .inl a_sets)), (q 54, .inl (E.2.1 0, 7, .inl a_bestGiven)), (q 53, .inl (E.2.1 0, 7, .inl a_given))]) hx hb hml hown hts hkn hst hA  (fun n_195 H locs ls  hP hD hS hl => ?_) (w_182 + 1) w_182 n_178 _ _ _ (Nat.lt_succ_self _) hPl hDl hS (lv_sub hl [3, 4, 1, 2, 0] rfl)
            have hP : va_P E.1 vwCl [(h0, .inr (12, mG q i_taped i_size i_sort i_what i_at i_end i_worth i_faultKind i_faultPlace i_got i_worked (nI dl) i_isPlanned i_bestDone i_bestCost)), (q 51, .inl (E.2.1 0, 512, .inl a_least)), (q 55, .inl (E.2.1 0, 4, .inl a_sets)), (q 54, .inl (E.2.1 0, 7, .inl a_bestGiven)), (q 53, .inl (E.2.1 0, 7, .inl a_given))] H := hP
            have hD : va_D A [(h0, .inr (12, mG q i_taped i_size i_sort i_what i_at i_end i_worth i_faultKind i_faultPlace i_got i_worked (nI dl) i_isPlanned i_bestDone i_bestCost)), (q 51, .inl (E.2.1 0, 512, .inl a_least)), (q 55, .inl (E.2.1 0, 4, .inl a_sets)), (q 54, .inl (E.2.1 0, 7, .inl a_bestGiven)), (q 53, .inl (E.2.1 0, 7, .inl a_given))] := hD
            refine lv_iinc (v := 4) (lv' := [(4, .int 4), (0, .ref h0), (2, .int n_195), (3, .int x_193)]) hx hb dX12_give_96 hl (k := 3) rfl (by decide) (by decide) rfl (fun ls hl => ?_)
            refine lv_goto (tgt := 15) hx hb dX12_give_99 (by decide) ?_
            refine lv_iload hx hb dX12_give_15 (lv_at hl 0 rfl) ?_
            refine lv_iconst (v := 4) hx hb dX12_give_17 (by decide) ?_
            refine lv_icmp_ge (tgt := 102) hx hb dX12_give_18 (by decide) (fun _ => ?_) (fun c9 => absurd c9 (by decide))
            refine lv_iload_n hx hb dX12_give_102 rfl (lv_at hl 2 rfl) ?_
            refine lv_aload_n hx hb dX12_give_103 rfl (lv_at hl 1 rfl) ?_
            refine va_get (D := E.1) (ci := 12) (v := .int i_bestDone) (C := RX12) (T := TX12) (N := 59) hx hb hts inX12 hown hK hP 0 rfl rfl 57 (by decide) fl300 (fun _ h9 => h9) rfl dX12_give_104 ?_
            refine lv_icmp_lt (tgt := 126) hx hb dX12_give_107 (by decide) (fun c_196 => ?_) (fun c_196 => ?_)
            · have hP9 := hP.sub (ws' := [(h0, .inr (12, mG q i_taped i_size i_sort i_what i_at i_end i_worth i_faultKind i_faultPlace i_got i_worked (nI dl) i_isPlanned i_bestDone i_bestCost)), (q 51, .inl (E.2.1 0, 512, .inl a_least)), (q 55, .inl (E.2.1 0, 4, .inl a_sets)), (q 54, .inl (E.2.1 0, 7, .inl a_bestGiven)), (q 53, .inl (E.2.1 0, 7, .inl a_given))]) [0, 1, 2, 3, 4] rfl
              have hD9 := hD.sub (ws' := [(h0, .inr (12, mG q i_taped i_size i_sort i_what i_at i_end i_worth i_faultKind i_faultPlace i_got i_worked (nI dl) i_isPlanned i_bestDone i_bestCost)), (q 51, .inl (E.2.1 0, 512, .inl a_least)), (q 55, .inl (E.2.1 0, 4, .inl a_sets)), (q 54, .inl (E.2.1 0, 7, .inl a_bestGiven)), (q 53, .inl (E.2.1 0, 7, .inl a_given))]) [0, 1, 2, 3, 4] (by decide) rfl
              exact W.vret hx hb hr (fun t ht hW => ⟨⟨(i_bestDone, i_bestCost, a_sets, a_bestGiven, a_given), rfl, trivial, hI_sets, by rw [ht]; exact hP9, hD9⟩, hS.F ht⟩) hS.2.2 dX12_give_126
            · refine lv_iload_n hx hb dX12_give_110 rfl (lv_at hl 2 rfl) ?_
              refine lv_aload_n hx hb dX12_give_111 rfl (lv_at hl 1 rfl) ?_
              refine va_get (D := E.1) (ci := 12) (v := .int i_bestDone) (C := RX12) (T := TX12) (N := 59) hx hb hts inX12 hown hK hP 0 rfl rfl 57 (by decide) fl300 (fun _ h9 => h9) rfl dX12_give_112 ?_
              refine lv_icmp_ne (tgt := 127) hx hb dX12_give_115 (by decide) (fun c_197 => ?_) (fun c_197 => ?_)
              · refine lv_aload_n hx hb dX12_give_127 rfl (lv_at hl 1 rfl) ?_
                refine lv_iload_n hx hb dX12_give_128 rfl (lv_at hl 2 rfl) ?_
                refine va_put (D := E.1) (ci := 12) (v := .int n_195) (ty := .int) (C := RX12) (T := TX12) (N := 59) hx hb hts inX12 tyX12 tyX12_ok nmX12 hown hK hP hD hS 0 rfl rfl 57 (by decide) fl300 (fun _ h9 => h9) rfl (by decide +kernel) rfl rfl (Nat.le_of_ble_eq_true rfl) dX12_give_129 (fun H locs hP hD hS => ?_)
                have hP : va_P E.1 vwCl [(h0, .inr (12, mG q i_taped i_size i_sort i_what i_at i_end i_worth i_faultKind i_faultPlace i_got i_worked (nI dl) i_isPlanned n_195 i_bestCost)), (q 51, .inl (E.2.1 0, 512, .inl a_least)), (q 55, .inl (E.2.1 0, 4, .inl a_sets)), (q 54, .inl (E.2.1 0, 7, .inl a_bestGiven)), (q 53, .inl (E.2.1 0, 7, .inl a_given))] H := hP
                have hD : va_D A [(h0, .inr (12, mG q i_taped i_size i_sort i_what i_at i_end i_worth i_faultKind i_faultPlace i_got i_worked (nI dl) i_isPlanned n_195 i_bestCost)), (q 51, .inl (E.2.1 0, 512, .inl a_least)), (q 55, .inl (E.2.1 0, 4, .inl a_sets)), (q 54, .inl (E.2.1 0, 7, .inl a_bestGiven)), (q 53, .inl (E.2.1 0, 7, .inl a_given))] := hD
                refine lv_aload_n hx hb dX12_give_132 rfl (lv_at hl 1 rfl) ?_
                refine lv_iload_n hx hb dX12_give_133 rfl (lv_at hl 3 rfl) ?_
                refine va_put (D := E.1) (ci := 12) (v := .int x_193) (ty := .int) (C := RX12) (T := TX12) (N := 59) hx hb hts inX12 tyX12 tyX12_ok nmX12 hown hK hP hD hS 0 rfl rfl 58 (by decide) fl303 (fun _ h9 => h9) rfl (by decide +kernel) rfl rfl (Nat.le_of_ble_eq_true rfl) dX12_give_134 (fun H locs hP hD hS => ?_)
                have hP : va_P E.1 vwCl [(h0, .inr (12, mG q i_taped i_size i_sort i_what i_at i_end i_worth i_faultKind i_faultPlace i_got i_worked (nI dl) i_isPlanned n_195 x_193)), (q 51, .inl (E.2.1 0, 512, .inl a_least)), (q 55, .inl (E.2.1 0, 4, .inl a_sets)), (q 54, .inl (E.2.1 0, 7, .inl a_bestGiven)), (q 53, .inl (E.2.1 0, 7, .inl a_given))] H := hP
                have hD : va_D A [(h0, .inr (12, mG q i_taped i_size i_sort i_what i_at i_end i_worth i_faultKind i_faultPlace i_got i_worked (nI dl) i_isPlanned n_195 x_193)), (q 51, .inl (E.2.1 0, 512, .inl a_least)), (q 55, .inl (E.2.1 0, 4, .inl a_sets)), (q 54, .inl (E.2.1 0, 7, .inl a_bestGiven)), (q 53, .inl (E.2.1 0, 7, .inl a_given))] := hD
                refine lv_iconst (v := 0) hx hb dX12_give_137 (by decide) ?_
                refine lv_istore (lv' := [(4, .int 0), (0, .ref h0), (2, .int n_195), (3, .int x_193)]) hx hb dX12_give_138 hl (by decide) rfl (fun ls hl => ?_)
                have hPl := hP.sub (ws' := [(h0, .inr (12, mG q i_taped i_size i_sort i_what i_at i_end i_worth i_faultKind i_faultPlace i_got i_worked (nI dl) i_isPlanned n_195 x_193)), (q 53, .inl (E.2.1 0, 7, .inl a_given)), (q 54, .inl (E.2.1 0, 7, .inl a_bestGiven)), (q 51, .inl (E.2.1 0, 512, .inl a_least)), (q 55, .inl (E.2.1 0, 4, .inl a_sets))]) [0, 4, 3, 1, 2] rfl
                have hDl := hD.sub (ws' := [(h0, .inr (12, mG q i_taped i_size i_sort i_what i_at i_end i_worth i_faultKind i_faultPlace i_got i_worked (nI dl) i_isPlanned n_195 x_193)), (q 53, .inl (E.2.1 0, 7, .inl a_given)), (q 54, .inl (E.2.1 0, 7, .inl a_bestGiven)), (q 51, .inl (E.2.1 0, 512, .inl a_least)), (q 55, .inl (E.2.1 0, 4, .inl a_sets))]) [0, 4, 3, 1, 2] (by decide) rfl
                refine lm_copy E h0 q i_taped i_size i_sort i_what i_at i_end i_worth i_faultKind i_faultPlace i_got i_worked i_isPlanned n_195 x_193 dl a_given ([(q 51, .inl (E.2.1 0, 512, .inl a_least)), (q 55, .inl (E.2.1 0, 4, .inl a_sets))]) hx hb hml hown hts hkn hst hA (by omega) (fun n_198 H locs ls  hP hD hS hl => ?_) 9 0 a_bestGiven _ _ _ (by omega) (by omega) hPl hDl hS (lv_sub hl [1, 0] rfl)
                have hP : va_P E.1 vwCl [(h0, .inr (12, mG q i_taped i_size i_sort i_what i_at i_end i_worth i_faultKind i_faultPlace i_got i_worked (nI dl) i_isPlanned n_195 x_193)), (q 53, .inl (E.2.1 0, 7, .inl a_given)), (q 54, .inl (E.2.1 0, 7, .inl n_198)), (q 51, .inl (E.2.1 0, 512, .inl a_least)), (q 55, .inl (E.2.1 0, 4, .inl a_sets))] H := hP
                have hD : va_D A [(h0, .inr (12, mG q i_taped i_size i_sort i_what i_at i_end i_worth i_faultKind i_faultPlace i_got i_worked (nI dl) i_isPlanned n_195 x_193)), (q 53, .inl (E.2.1 0, 7, .inl a_given)), (q 54, .inl (E.2.1 0, 7, .inl n_198)), (q 51, .inl (E.2.1 0, 512, .inl a_least)), (q 55, .inl (E.2.1 0, 4, .inl a_sets))] := hD
                have hP9 := hP.sub (ws' := [(h0, .inr (12, mG q i_taped i_size i_sort i_what i_at i_end i_worth i_faultKind i_faultPlace i_got i_worked (nI dl) i_isPlanned n_195 x_193)), (q 51, .inl (E.2.1 0, 512, .inl a_least)), (q 55, .inl (E.2.1 0, 4, .inl a_sets)), (q 54, .inl (E.2.1 0, 7, .inl n_198)), (q 53, .inl (E.2.1 0, 7, .inl a_given))]) [0, 3, 4, 2, 1] rfl
                have hD9 := hD.sub (ws' := [(h0, .inr (12, mG q i_taped i_size i_sort i_what i_at i_end i_worth i_faultKind i_faultPlace i_got i_worked (nI dl) i_isPlanned n_195 x_193)), (q 51, .inl (E.2.1 0, 512, .inl a_least)), (q 55, .inl (E.2.1 0, 4, .inl a_sets)), (q 54, .inl (E.2.1 0, 7, .inl n_198)), (q 53, .inl (E.2.1 0, 7, .inl a_given))]) [0, 3, 4, 2, 1] (by decide) rfl
                exact W.vret hx hb hr (fun t ht hW => ⟨⟨(n_195, x_193, a_sets, n_198, a_given), rfl, trivial, hI_sets, by rw [ht]; exact hP9, hD9⟩, hS.F ht⟩) hS.2.2 dX12_give_169
              · refine lv_iload_n hx hb dX12_give_118 rfl (lv_at hl 3 rfl) ?_
                refine lv_aload_n hx hb dX12_give_119 rfl (lv_at hl 1 rfl) ?_
                refine va_get (D := E.1) (ci := 12) (v := .int i_bestCost) (C := RX12) (T := TX12) (N := 59) hx hb hts inX12 hown hK hP 0 rfl rfl 58 (by decide) fl303 (fun _ h9 => h9) rfl dX12_give_120 ?_
                refine lv_icmp_lt (tgt := 127) hx hb dX12_give_123 (by decide) (fun c_199 => ?_) (fun c_199 => ?_)
                · refine lv_aload_n hx hb dX12_give_127 rfl (lv_at hl 1 rfl) ?_
                  refine lv_iload_n hx hb dX12_give_128 rfl (lv_at hl 2 rfl) ?_
                  refine va_put (D := E.1) (ci := 12) (v := .int n_195) (ty := .int) (C := RX12) (T := TX12) (N := 59) hx hb hts inX12 tyX12 tyX12_ok nmX12 hown hK hP hD hS 0 rfl rfl 57 (by decide) fl300 (fun _ h9 => h9) rfl (by decide +kernel) rfl rfl (Nat.le_of_ble_eq_true rfl) dX12_give_129 (fun H locs hP hD hS => ?_)
                  have hP : va_P E.1 vwCl [(h0, .inr (12, mG q i_taped i_size i_sort i_what i_at i_end i_worth i_faultKind i_faultPlace i_got i_worked (nI dl) i_isPlanned n_195 i_bestCost)), (q 51, .inl (E.2.1 0, 512, .inl a_least)), (q 55, .inl (E.2.1 0, 4, .inl a_sets)), (q 54, .inl (E.2.1 0, 7, .inl a_bestGiven)), (q 53, .inl (E.2.1 0, 7, .inl a_given))] H := hP
                  have hD : va_D A [(h0, .inr (12, mG q i_taped i_size i_sort i_what i_at i_end i_worth i_faultKind i_faultPlace i_got i_worked (nI dl) i_isPlanned n_195 i_bestCost)), (q 51, .inl (E.2.1 0, 512, .inl a_least)), (q 55, .inl (E.2.1 0, 4, .inl a_sets)), (q 54, .inl (E.2.1 0, 7, .inl a_bestGiven)), (q 53, .inl (E.2.1 0, 7, .inl a_given))] := hD
                  refine lv_aload_n hx hb dX12_give_132 rfl (lv_at hl 1 rfl) ?_
                  refine lv_iload_n hx hb dX12_give_133 rfl (lv_at hl 3 rfl) ?_
                  refine va_put (D := E.1) (ci := 12) (v := .int x_193) (ty := .int) (C := RX12) (T := TX12) (N := 59) hx hb hts inX12 tyX12 tyX12_ok nmX12 hown hK hP hD hS 0 rfl rfl 58 (by decide) fl303 (fun _ h9 => h9) rfl (by decide +kernel) rfl rfl (Nat.le_of_ble_eq_true rfl) dX12_give_134 (fun H locs hP hD hS => ?_)
                  have hP : va_P E.1 vwCl [(h0, .inr (12, mG q i_taped i_size i_sort i_what i_at i_end i_worth i_faultKind i_faultPlace i_got i_worked (nI dl) i_isPlanned n_195 x_193)), (q 51, .inl (E.2.1 0, 512, .inl a_least)), (q 55, .inl (E.2.1 0, 4, .inl a_sets)), (q 54, .inl (E.2.1 0, 7, .inl a_bestGiven)), (q 53, .inl (E.2.1 0, 7, .inl a_given))] H := hP
                  have hD : va_D A [(h0, .inr (12, mG q i_taped i_size i_sort i_what i_at i_end i_worth i_faultKind i_faultPlace i_got i_worked (nI dl) i_isPlanned n_195 x_193)), (q 51, .inl (E.2.1 0, 512, .inl a_least)), (q 55, .inl (E.2.1 0, 4, .inl a_sets)), (q 54, .inl (E.2.1 0, 7, .inl a_bestGiven)), (q 53, .inl (E.2.1 0, 7, .inl a_given))] := hD
                  refine lv_iconst (v := 0) hx hb dX12_give_137 (by decide) ?_
                  refine lv_istore (lv' := [(4, .int 0), (0, .ref h0), (2, .int n_195), (3, .int x_193)]) hx hb dX12_give_138 hl (by decide) rfl (fun ls hl => ?_)
                  have hPl := hP.sub (ws' := [(h0, .inr (12, mG q i_taped i_size i_sort i_what i_at i_end i_worth i_faultKind i_faultPlace i_got i_worked (nI dl) i_isPlanned n_195 x_193)), (q 53, .inl (E.2.1 0, 7, .inl a_given)), (q 54, .inl (E.2.1 0, 7, .inl a_bestGiven)), (q 51, .inl (E.2.1 0, 512, .inl a_least)), (q 55, .inl (E.2.1 0, 4, .inl a_sets))]) [0, 4, 3, 1, 2] rfl
                  have hDl := hD.sub (ws' := [(h0, .inr (12, mG q i_taped i_size i_sort i_what i_at i_end i_worth i_faultKind i_faultPlace i_got i_worked (nI dl) i_isPlanned n_195 x_193)), (q 53, .inl (E.2.1 0, 7, .inl a_given)), (q 54, .inl (E.2.1 0, 7, .inl a_bestGiven)), (q 51, .inl (E.2.1 0, 512, .inl a_least)), (q 55, .inl (E.2.1 0, 4, .inl a_sets))]) [0, 4, 3, 1, 2] (by decide) rfl
                  refine lm_copy E h0 q i_taped i_size i_sort i_what i_at i_end i_worth i_faultKind i_faultPlace i_got i_worked i_isPlanned n_195 x_193 dl a_given ([(q 51, .inl (E.2.1 0, 512, .inl a_least)), (q 55, .inl (E.2.1 0, 4, .inl a_sets))]) hx hb hml hown hts hkn hst hA (by omega) (fun n_200 H locs ls  hP hD hS hl => ?_) 9 0 a_bestGiven _ _ _ (by omega) (by omega) hPl hDl hS (lv_sub hl [1, 0] rfl)
                  have hP : va_P E.1 vwCl [(h0, .inr (12, mG q i_taped i_size i_sort i_what i_at i_end i_worth i_faultKind i_faultPlace i_got i_worked (nI dl) i_isPlanned n_195 x_193)), (q 53, .inl (E.2.1 0, 7, .inl a_given)), (q 54, .inl (E.2.1 0, 7, .inl n_200)), (q 51, .inl (E.2.1 0, 512, .inl a_least)), (q 55, .inl (E.2.1 0, 4, .inl a_sets))] H := hP
                  have hD : va_D A [(h0, .inr (12, mG q i_taped i_size i_sort i_what i_at i_end i_worth i_faultKind i_faultPlace i_got i_worked (nI dl) i_isPlanned n_195 x_193)), (q 53, .inl (E.2.1 0, 7, .inl a_given)), (q 54, .inl (E.2.1 0, 7, .inl n_200)), (q 51, .inl (E.2.1 0, 512, .inl a_least)), (q 55, .inl (E.2.1 0, 4, .inl a_sets))] := hD
                  have hP9 := hP.sub (ws' := [(h0, .inr (12, mG q i_taped i_size i_sort i_what i_at i_end i_worth i_faultKind i_faultPlace i_got i_worked (nI dl) i_isPlanned n_195 x_193)), (q 51, .inl (E.2.1 0, 512, .inl a_least)), (q 55, .inl (E.2.1 0, 4, .inl a_sets)), (q 54, .inl (E.2.1 0, 7, .inl n_200)), (q 53, .inl (E.2.1 0, 7, .inl a_given))]) [0, 3, 4, 2, 1] rfl
                  have hD9 := hD.sub (ws' := [(h0, .inr (12, mG q i_taped i_size i_sort i_what i_at i_end i_worth i_faultKind i_faultPlace i_got i_worked (nI dl) i_isPlanned n_195 x_193)), (q 51, .inl (E.2.1 0, 512, .inl a_least)), (q 55, .inl (E.2.1 0, 4, .inl a_sets)), (q 54, .inl (E.2.1 0, 7, .inl n_200)), (q 53, .inl (E.2.1 0, 7, .inl a_given))]) [0, 3, 4, 2, 1] (by decide) rfl
                  exact W.vret hx hb hr (fun t ht hW => ⟨⟨(n_195, x_193, a_sets, n_200, a_given), rfl, trivial, hI_sets, by rw [ht]; exact hP9, hD9⟩, hS.F ht⟩) hS.2.2 dX12_give_169
                · have hP9 := hP.sub (ws' := [(h0, .inr (12, mG q i_taped i_size i_sort i_what i_at i_end i_worth i_faultKind i_faultPlace i_got i_worked (nI dl) i_isPlanned i_bestDone i_bestCost)), (q 51, .inl (E.2.1 0, 512, .inl a_least)), (q 55, .inl (E.2.1 0, 4, .inl a_sets)), (q 54, .inl (E.2.1 0, 7, .inl a_bestGiven)), (q 53, .inl (E.2.1 0, 7, .inl a_given))]) [0, 1, 2, 3, 4] rfl
                  have hD9 := hD.sub (ws' := [(h0, .inr (12, mG q i_taped i_size i_sort i_what i_at i_end i_worth i_faultKind i_faultPlace i_got i_worked (nI dl) i_isPlanned i_bestDone i_bestCost)), (q 51, .inl (E.2.1 0, 512, .inl a_least)), (q 55, .inl (E.2.1 0, 4, .inl a_sets)), (q 54, .inl (E.2.1 0, 7, .inl a_bestGiven)), (q 53, .inl (E.2.1 0, 7, .inl a_given))]) [0, 1, 2, 3, 4] (by decide) rfl
                  exact W.vret hx hb hr (fun t ht hW => ⟨⟨(i_bestDone, i_bestCost, a_sets, a_bestGiven, a_given), rfl, trivial, hI_sets, by rw [ht]; exact hP9, hD9⟩, hS.F ht⟩) hS.2.2 dX12_give_126
          · have hP9 := hP.sub (ws' := [(h0, .inr (12, mG q i_taped i_size i_sort i_what i_at i_end i_worth i_faultKind i_faultPlace i_got i_worked (nI dl) i_isPlanned i_bestDone i_bestCost)), (q 51, .inl (E.2.1 0, 512, .inl a_least)), (q 55, .inl (E.2.1 0, 4, .inl a_sets)), (q 54, .inl (E.2.1 0, 7, .inl a_bestGiven)), (q 53, .inl (E.2.1 0, 7, .inl a_given))]) [0, 1, 2, 3, 4] rfl
            have hD9 := hD.sub (ws' := [(h0, .inr (12, mG q i_taped i_size i_sort i_what i_at i_end i_worth i_faultKind i_faultPlace i_got i_worked (nI dl) i_isPlanned i_bestDone i_bestCost)), (q 51, .inl (E.2.1 0, 512, .inl a_least)), (q 55, .inl (E.2.1 0, 4, .inl a_sets)), (q 54, .inl (E.2.1 0, 7, .inl a_bestGiven)), (q 53, .inl (E.2.1 0, 7, .inl a_given))]) [0, 1, 2, 3, 4] (by decide) rfl
            exact W.vret hx hb hr (fun t ht hW => ⟨⟨(i_bestDone, i_bestCost, a_sets, a_bestGiven, a_given), rfl, trivial, hI_sets, by rw [ht]; exact hP9, hD9⟩, hS.F ht⟩) hS.2.2 dX12_give_44
        · have hP9 := hP.sub (ws' := [(h0, .inr (12, mG q i_taped i_size i_sort i_what i_at i_end i_worth i_faultKind i_faultPlace i_got i_worked (nI dl) i_isPlanned i_bestDone i_bestCost)), (q 51, .inl (E.2.1 0, 512, .inl a_least)), (q 55, .inl (E.2.1 0, 4, .inl a_sets)), (q 54, .inl (E.2.1 0, 7, .inl a_bestGiven)), (q 53, .inl (E.2.1 0, 7, .inl a_given))]) [0, 1, 2, 3, 4] rfl
          have hD9 := hD.sub (ws' := [(h0, .inr (12, mG q i_taped i_size i_sort i_what i_at i_end i_worth i_faultKind i_faultPlace i_got i_worked (nI dl) i_isPlanned i_bestDone i_bestCost)), (q 51, .inl (E.2.1 0, 512, .inl a_least)), (q 55, .inl (E.2.1 0, 4, .inl a_sets)), (q 54, .inl (E.2.1 0, 7, .inl a_bestGiven)), (q 53, .inl (E.2.1 0, 7, .inl a_given))]) [0, 1, 2, 3, 4] (by decide) rfl
          exact W.vret hx hb hr (fun t ht hW => ⟨⟨(i_bestDone, i_bestCost, a_sets, a_bestGiven, a_given), rfl, trivial, hI_sets, by rw [ht]; exact hP9, hD9⟩, hS.F ht⟩) hS.2.2 dX12_give_44
      · have hP9 := hP.sub (ws' := [(h0, .inr (12, mG q i_taped i_size i_sort i_what i_at i_end i_worth i_faultKind i_faultPlace i_got i_worked (nI dl) i_isPlanned i_bestDone i_bestCost)), (q 51, .inl (E.2.1 0, 512, .inl a_least)), (q 55, .inl (E.2.1 0, 4, .inl a_sets)), (q 54, .inl (E.2.1 0, 7, .inl a_bestGiven)), (q 53, .inl (E.2.1 0, 7, .inl a_given))]) [0, 1, 2, 3, 4] rfl
        have hD9 := hD.sub (ws' := [(h0, .inr (12, mG q i_taped i_size i_sort i_what i_at i_end i_worth i_faultKind i_faultPlace i_got i_worked (nI dl) i_isPlanned i_bestDone i_bestCost)), (q 51, .inl (E.2.1 0, 512, .inl a_least)), (q 55, .inl (E.2.1 0, 4, .inl a_sets)), (q 54, .inl (E.2.1 0, 7, .inl a_bestGiven)), (q 53, .inl (E.2.1 0, 7, .inl a_given))]) [0, 1, 2, 3, 4] (by decide) rfl
        exact W.vret hx hb hr (fun t ht hW => ⟨⟨(i_bestDone, i_bestCost, a_sets, a_bestGiven, a_given), rfl, trivial, hI_sets, by rw [ht]; exact hP9, hD9⟩, hS.F ht⟩) hS.2.2 dX12_give_44
    · have hP9 := hP.sub (ws' := [(h0, .inr (12, mG q i_taped i_size i_sort i_what i_at i_end i_worth i_faultKind i_faultPlace i_got i_worked (nI dl) i_isPlanned i_bestDone i_bestCost)), (q 51, .inl (E.2.1 0, 512, .inl a_least)), (q 55, .inl (E.2.1 0, 4, .inl a_sets)), (q 54, .inl (E.2.1 0, 7, .inl a_bestGiven)), (q 53, .inl (E.2.1 0, 7, .inl a_given))]) [0, 1, 2, 3, 4] rfl
      have hD9 := hD.sub (ws' := [(h0, .inr (12, mG q i_taped i_size i_sort i_what i_at i_end i_worth i_faultKind i_faultPlace i_got i_worked (nI dl) i_isPlanned i_bestDone i_bestCost)), (q 51, .inl (E.2.1 0, 512, .inl a_least)), (q 55, .inl (E.2.1 0, 4, .inl a_sets)), (q 54, .inl (E.2.1 0, 7, .inl a_bestGiven)), (q 53, .inl (E.2.1 0, 7, .inl a_given))]) [0, 1, 2, 3, 4] (by decide) rfl
      exact W.vret hx hb hr (fun t ht hW => ⟨⟨(i_bestDone, i_bestCost, a_sets, a_bestGiven, a_given), rfl, trivial, hI_sets, by rw [ht]; exact hP9, hD9⟩, hS.F ht⟩) hS.2.2 dX12_give_44
set_option maxHeartbeats 4000000 in
set_option maxRecDepth 100000 in
theorem c_X12_give3 (l : Launch) (E : vE) (h0 : Nat) (q : Nat → Nat) (i_taped : Int32) (i_size : Int32) (i_sort : Int32) (i_what : Int32) (i_at : Int32) (i_end : Int32) (i_worth : Int32) (i_faultKind : Int32) (i_faultPlace : Int32) (i_got : Int32) (i_worked : Int32) (i_isPlanned : Int32) (i_bestDone : Int32) (i_bestCost : Int32) (dl : Nat) (a_least : Nat → Int32) (a_sets : Nat → Int32) (a_bestGiven : Nat → Int32) (a_given : Nat → Int32) (sz : Nat) (hdl : dl ≤ 7) (hd : 3 ≤ dl) (hI_sets : ∀ k : Nat, k < 4 → inR (a_sets k) 0 127 = true) : Met l yX12_give wsX12_give ({ frames := 4, cells := 0, slots := 0, locals := 100 }) (pcW E [.ref h0, .int 3] sz [(h0, .inr (12, mG q i_taped i_size i_sort i_what i_at i_end i_worth i_faultKind i_faultPlace i_got i_worked (nI dl) i_isPlanned i_bestDone i_bestCost)), (q 51, .inl (E.2.1 0, 512, .inl a_least)), (q 55, .inl (E.2.1 0, 4, .inl a_sets)), (q 54, .inl (E.2.1 0, 7, .inl a_bestGiven)), (q 53, .inl (E.2.1 0, 7, .inl a_given))]) (va_Qv (fun (u : Int32 × Int32 × (Nat → Int32) × (Nat → Int32) × (Nat → Int32)) => match u with | (bd2, bc2, b_sets, b_bestGiven, b_given) => True) (fun (u : Int32 × Int32 × (Nat → Int32) × (Nat → Int32) × (Nat → Int32)) (t : State) => match u with | (bd2, bc2, b_sets, b_bestGiven, b_given) => (∀ k : Nat, k < 4 → inR (b_sets k) 0 127 = true) ∧ wB E (va_A [(h0, .inr (12, mG q i_taped i_size i_sort i_what i_at i_end i_worth i_faultKind i_faultPlace i_got i_worked (nI dl) i_isPlanned i_bestDone i_bestCost)), (q 51, .inl (E.2.1 0, 512, .inl a_least)), (q 55, .inl (E.2.1 0, 4, .inl a_sets)), (q 54, .inl (E.2.1 0, 7, .inl a_bestGiven)), (q 53, .inl (E.2.1 0, 7, .inl a_given))] sz) [(h0, .inr (12, mG q i_taped i_size i_sort i_what i_at i_end i_worth i_faultKind i_faultPlace i_got i_worked (nI dl) i_isPlanned bd2 bc2)), (q 51, .inl (E.2.1 0, 512, .inl a_least)), (q 55, .inl (E.2.1 0, 4, .inl b_sets)), (q 54, .inl (E.2.1 0, 7, .inl b_bestGiven)), (q 53, .inl (E.2.1 0, 7, .inl b_given))] t) (va_A [(h0, .inr (12, mG q i_taped i_size i_sort i_what i_at i_end i_worth i_faultKind i_faultPlace i_got i_worked (nI dl) i_isPlanned i_bestDone i_bestCost)), (q 51, .inl (E.2.1 0, 512, .inl a_least)), (q 55, .inl (E.2.1 0, 4, .inl a_sets)), (q 54, .inl (E.2.1 0, 7, .inl a_bestGiven)), (q 53, .inl (E.2.1 0, 7, .inl a_given))] sz)) 0 0 (va_A [(h0, .inr (12, mG q i_taped i_size i_sort i_what i_at i_end i_worth i_faultKind i_faultPlace i_got i_worked (nI dl) i_isPlanned i_bestDone i_bestCost)), (q 51, .inl (E.2.1 0, 512, .inl a_least)), (q 55, .inl (E.2.1 0, 4, .inl a_sets)), (q 54, .inl (E.2.1 0, 7, .inl a_bestGiven)), (q 53, .inl (E.2.1 0, 7, .inl a_given))] sz) := by
  refine Met.ofW (cc := cX12_give) (maxL := 6) (ret := none) (by decide) rfl ?_
  intro p e s m args below meth c s₁ B hml hv
  obtain ⟨rfl, hsz, hP, hkn, hD0, hst⟩ := hv
  have hx := B.exec
  have hb := B.bytes
  have hr := B.returns
  have hts := atoms_spec (ws := wsX12_give) B.pre
  have hown : s.vm.findClass RX12 = some m.cls := findClass_of_methodNamed B.named
  have hlocks := B.notSynchronized
  subst hsz
  have hD := hD0.self (sz := s.heap.size)
  have hK := hkn.1
  have hAO := hkn.2.2.1
  generalize hAe : va_A [(h0, .inr (12, mG q i_taped i_size i_sort i_what i_at i_end i_worth i_faultKind i_faultPlace i_got i_worked (nI dl) i_isPlanned i_bestDone i_bestCost)), (q 51, .inl (E.2.1 0, 512, .inl a_least)), (q 55, .inl (E.2.1 0, 4, .inl a_sets)), (q 54, .inl (E.2.1 0, 7, .inl a_bestGiven)), (q 53, .inl (E.2.1 0, 7, .inl a_given))] s.heap.size = A at hD hst ⊢
  have hA : ∀ q : Nat, s.heap.size ≤ q → A q := fun q h => by rw [← hAe]; exact Or.inr h
  have hS : va_S A s.heap s.heap [] := va_S.rf
  have hP : va_P E.1 vwCl [(h0, .inr (12, mG q i_taped i_size i_sort i_what i_at i_end i_worth i_faultKind i_faultPlace i_got i_worked (nI dl) i_isPlanned i_bestDone i_bestCost)), (q 51, .inl (E.2.1 0, 512, .inl a_least)), (q 55, .inl (E.2.1 0, 4, .inl a_sets)), (q 54, .inl (E.2.1 0, 7, .inl a_bestGiven)), (q 53, .inl (E.2.1 0, 7, .inl a_given))] s.heap := hP
  have hl := lv_entry ([.ref h0, .int 3]) (n := 6) (Nat.le_of_ble_eq_true rfl)
  rw [lg_entry_eq]
  generalize (lg_sl ([.ref h0, .int 3]) ++ List.replicate (6 - (lg_sl ([.ref h0, .int 3])).length) Slot.unset).toArray = ls at hl ⊢
  have hl : lv_has ls 6 [(0, .ref h0), (1, .int 3)] := hl
  have fl130 := hts (.fieldLink RX12 130 "BoatsHomeModel" "least" "[I") (by first | exact List.mem_of_getElem? (i := 2) rfl | decide +kernel)
  have fl136 := hts (.fieldLink RX12 136 "BoatsHomeModel" "given" "[I") (by first | exact List.mem_of_getElem? (i := 7) rfl | decide +kernel)
  have fl139 := hts (.fieldLink RX12 139 "BoatsHomeModel" "bestGiven" "[I") (by first | exact List.mem_of_getElem? (i := 6) rfl | decide +kernel)
  have fl142 := hts (.fieldLink RX12 142 "BoatsHomeModel" "sets" "[I") (by first | exact List.mem_of_getElem? (i := 3) rfl | decide +kernel)
  have fl289 := hts (.fieldLink RX12 289 "BoatsHomeModel" "deliveries" "I") (by first | exact List.mem_of_getElem? (i := 1) rfl | decide +kernel)
  have fl300 := hts (.fieldLink RX12 300 "BoatsHomeModel" "bestDone" "I") (by first | exact List.mem_of_getElem? (i := 4) rfl | decide +kernel)
  have fl303 := hts (.fieldLink RX12 303 "BoatsHomeModel" "bestCost" "I") (by first | exact List.mem_of_getElem? (i := 5) rfl | decide +kernel)
  have inX12 : ∀ w ∈ u_ws RX12 TX12 59, w ∈ wsX12_give := by first | exact fun w h9 => (List.mem_cons_of_mem _ (List.mem_append_right _ h9)) | decide +kernel
  refine lv_iload_n hx hb dX12_give_0 rfl (lv_at hl 1 rfl) ?_
  refine lv_aload_n hx hb dX12_give_1 rfl (lv_at hl 0 rfl) ?_
  refine va_get (D := E.1) (ci := 12) (v := .int (nI dl)) (C := RX12) (T := TX12) (N := 59) hx hb hts inX12 hown hK hP 0 rfl rfl 41 (by decide) fl289 (fun _ h9 => h9) rfl dX12_give_2 ?_
  refine lv_icmp_ne (tgt := 170) hx hb dX12_give_5 (by decide) (fun c_1 => ?_) (fun c_1 => ?_)
  · have hd2 : 3 + 1 ≤ dl := by
      rcases Nat.lt_or_ge 3 dl with q | q
      · exact q
      · exact absurd (by rw [show dl = 3 by omega]; rfl) c_1
    refine lv_iconst (v := 0) hx hb dX12_give_170 (by decide) ?_
    refine lv_istore_n (lv' := [(2, .int 0), (0, .ref h0), (1, .int 3)]) hx hb dX12_give_171 rfl hl (by decide) rfl (fun ls hl => ?_)
    refine lv_iload_n hx hb dX12_give_172 rfl (lv_at hl 0 rfl) ?_
    refine lv_iconst (v := 4) hx hb dX12_give_173 (by decide) ?_
    refine lv_icmp_ge (tgt := 223) hx hb dX12_give_174 (by decide) (fun c9 => absurd c9 (by decide)) (fun _ => ?_)
    refine lv_aload_n hx hb dX12_give_177 rfl (lv_at hl 1 rfl) ?_
    refine va_get (D := E.1) (ci := 12) (v := .ref (q 53)) (C := RX12) (T := TX12) (N := 59) hx hb hts inX12 hown hK hP 0 rfl rfl 53 (by decide) fl136 (fun _ h9 => h9) rfl dX12_give_178 ?_
    refine lv_iload_n hx hb dX12_give_181 rfl (lv_at hl 2 rfl) ?_
    refine lv_iload_n hx hb dX12_give_182 rfl (lv_at hl 0 rfl) ?_
    refine va_iast hx hb hK hP hD hS 4 0 rfl rfl (show vp_in 3 7 from by unfold vp_in; decide) dX12_give_183 (fun H locs hP hD hS => ?_)
    have hP : va_P E.1 vwCl [(h0, .inr (12, mG q i_taped i_size i_sort i_what i_at i_end i_worth i_faultKind i_faultPlace i_got i_worked (nI dl) i_isPlanned i_bestDone i_bestCost)), (q 51, .inl (E.2.1 0, 512, .inl a_least)), (q 55, .inl (E.2.1 0, 4, .inl a_sets)), (q 54, .inl (E.2.1 0, 7, .inl a_bestGiven)), (q 53, .inl (E.2.1 0, 7, .inl (upd a_given (Int32.toNatClampNeg 3) 0)))] H := hP
    have hD : va_D A [(h0, .inr (12, mG q i_taped i_size i_sort i_what i_at i_end i_worth i_faultKind i_faultPlace i_got i_worked (nI dl) i_isPlanned i_bestDone i_bestCost)), (q 51, .inl (E.2.1 0, 512, .inl a_least)), (q 55, .inl (E.2.1 0, 4, .inl a_sets)), (q 54, .inl (E.2.1 0, 7, .inl a_bestGiven)), (q 53, .inl (E.2.1 0, 7, .inl (upd a_given (Int32.toNatClampNeg 3) 0)))] := hD
    obtain ⟨f_2, ef_2⟩ : ∃ g : Nat → Int32, g = upd a_given (Int32.toNatClampNeg 3) 0 := ⟨_, rfl⟩
    rw [← ef_2] at hP hD
    refine lv_aload_n hx hb dX12_give_184 rfl (lv_at hl 1 rfl) ?_
    refine va_get (D := E.1) (ci := 12) (v := .ref (q 55)) (C := RX12) (T := TX12) (N := 59) hx hb hts inX12 hown hK hP 0 rfl rfl 55 (by decide) fl142 (fun _ h9 => h9) rfl dX12_give_185 ?_
    refine lv_iload_n hx hb dX12_give_188 rfl (lv_at hl 0 rfl) ?_
    refine lv_dup2_11 hx hb dX12_give_189 rfl rfl ?_
    refine va_iald hx hb hK hP 2 0 rfl rfl (show vp_in 0 4 from by unfold vp_in; decide) dX12_give_190 ?_
    refine lv_topi (fun x_3 ex_3 => ?_)
    have hv_4 : inR x_3 0 127 = true := by rw [ex_3]; exact hI_sets _ (vin_cl (show vp_in 0 4 from by unfold vp_in; decide))
    obtain ⟨w_5, hw_6, ew_7⟩ := inR_nI (n := 127) (by decide) hv_4
    subst ew_7
    refine lv_iconst (v := 1) hx hb dX12_give_191 (by decide) ?_
    refine lv_iload_n hx hb dX12_give_192 rfl (lv_at hl 2 rfl) ?_
    refine lv_ishl hx hb dX12_give_193 ?_
    refine lv_topi (fun x_8 ex_8 => ?_)
    obtain rfl : x_8 = 8 := ex_8.trans (by decide +kernel)
    refine lv_ior hx hb dX12_give_194 ?_
    refine lv_topi (fun x_9 ex_9 => ?_)
    refine va_iast hx hb hK hP hD hS 2 0 rfl rfl (show vp_in 0 4 from by unfold vp_in; decide) dX12_give_195 (fun H locs hP hD hS => ?_)
    have hP : va_P E.1 vwCl [(h0, .inr (12, mG q i_taped i_size i_sort i_what i_at i_end i_worth i_faultKind i_faultPlace i_got i_worked (nI dl) i_isPlanned i_bestDone i_bestCost)), (q 51, .inl (E.2.1 0, 512, .inl a_least)), (q 55, .inl (E.2.1 0, 4, .inl (upd a_sets (Int32.toNatClampNeg 0) x_9))), (q 54, .inl (E.2.1 0, 7, .inl a_bestGiven)), (q 53, .inl (E.2.1 0, 7, .inl f_2))] H := hP
    have hD : va_D A [(h0, .inr (12, mG q i_taped i_size i_sort i_what i_at i_end i_worth i_faultKind i_faultPlace i_got i_worked (nI dl) i_isPlanned i_bestDone i_bestCost)), (q 51, .inl (E.2.1 0, 512, .inl a_least)), (q 55, .inl (E.2.1 0, 4, .inl (upd a_sets (Int32.toNatClampNeg 0) x_9))), (q 54, .inl (E.2.1 0, 7, .inl a_bestGiven)), (q 53, .inl (E.2.1 0, 7, .inl f_2))] := hD
    obtain ⟨f_10, ef_10⟩ : ∃ g : Nat → Int32, g = upd a_sets (Int32.toNatClampNeg 0) x_9 := ⟨_, rfl⟩
    rw [← ef_10] at hP hD
    have hI_11 : ∀ k : Nat, k < 4 → inR (f_10 k) 0 127 = true := by rw [ef_10]; exact all_upd (P := fun z => inR z 0 127 = true) hI_sets (by rw [ex_9]; exact or_lt7 _ (by omega) 3 (by decide))
    refine lv_aload_n hx hb dX12_give_196 rfl (lv_at hl 1 rfl) ?_
    refine lv_iload_n hx hb dX12_give_197 rfl (lv_at hl 2 rfl) ?_
    refine lv_iconst (v := 1) hx hb dX12_give_198 (by decide) ?_
    refine lv_iadd hx hb dX12_give_199 ?_
    refine lv_topi (fun x_12 ex_12 => ?_)
    obtain rfl : x_12 = 4 := ex_12.trans (by decide +kernel)
    have hPc := hP.sub (ws' := [(h0, .inr (12, mG q i_taped i_size i_sort i_what i_at i_end i_worth i_faultKind i_faultPlace i_got i_worked (nI dl) i_isPlanned i_bestDone i_bestCost)), (q 51, .inl (E.2.1 0, 512, .inl a_least)), (q 55, .inl (E.2.1 0, 4, .inl f_10)), (q 54, .inl (E.2.1 0, 7, .inl a_bestGiven)), (q 53, .inl (E.2.1 0, 7, .inl f_2))]) [0, 1, 2, 3, 4] rfl
    have hDc := hD.sub (ws' := [(h0, .inr (12, mG q i_taped i_size i_sort i_what i_at i_end i_worth i_faultKind i_faultPlace i_got i_worked (nI dl) i_isPlanned i_bestDone i_bestCost)), (q 51, .inl (E.2.1 0, 512, .inl a_least)), (q 55, .inl (E.2.1 0, 4, .inl f_10)), (q 54, .inl (E.2.1 0, 7, .inl a_bestGiven)), (q 53, .inl (E.2.1 0, 7, .inl f_2))]) [0, 1, 2, 3, 4] (by decide) rfl
    have hFc := va_free (wc := [(h0, .inr (12, mG q i_taped i_size i_sort i_what i_at i_end i_worth i_faultKind i_faultPlace i_got i_worked (nI dl) i_isPlanned i_bestDone i_bestCost)), (q 51, .inl (E.2.1 0, 512, .inl a_least)), (q 55, .inl (E.2.1 0, 4, .inl f_10)), (q 54, .inl (E.2.1 0, 7, .inl a_bestGiven)), (q 53, .inl (E.2.1 0, 7, .inl f_2))]) hD hS hA [0, 1, 2, 3, 4] rfl
    refine va_callv (va_runV (As := [.int 4]) (rest := []) ⟨hx, hb, hml, hown, hts⟩ (c_X12_give4 l E h0 q i_taped i_size i_sort i_what i_at i_end i_worth i_faultKind i_faultPlace i_got i_worked i_isPlanned i_bestDone i_bestCost dl a_least f_10 a_bestGiven f_2 H.size hdl hd2 hI_11) (cwV 1 hts gX12_give_X12_give rfl rfl rfl hdV_X12_give ⟨Nat.le_of_ble_eq_true rfl, Nat.le_of_ble_eq_true rfl⟩) ⟨pcW_blind, va_recv hK hPc (ci := 12) (q0 := 0) rfl rfl, (pcW_pre hPc hkn hDc hst hS hFc)⟩ rfl rfl hl.1 rfl (lv_room (Nat.le_of_ble_eq_true rfl)) dX12_give_200 ⟨Nat.le_of_ble_eq_true rfl, Nat.le_of_ble_eq_true rfl⟩) hS (fun q _ h => hFc q h) hFc (fun u t H1 locs ht hvm hw_14 hB hz1 hk1 hS => ?_)
    obtain ⟨u_15, u_16, u_17, u_18, u_19⟩ := u
    obtain ⟨hf_20, hP1, hD1⟩ := hB
    rw [ht] at hP1
    try dsimp only at hw_14
    obtain ⟨hP, hD⟩ := va_join (wr := []) (w1 := [(h0, .inr (12, mG q i_taped i_size i_sort i_what i_at i_end i_worth i_faultKind i_faultPlace i_got i_worked (nI dl) i_isPlanned u_15 u_16)), (q 51, .inl (E.2.1 0, 512, .inl a_least)), (q 55, .inl (E.2.1 0, 4, .inl u_17)), (q 54, .inl (E.2.1 0, 7, .inl u_18)), (q 53, .inl (E.2.1 0, 7, .inl u_19))]) hP hD [0, 1, 2, 3, 4] [] rfl rfl (by decide) (by decide) hk1 hFc hP1 hD1
    generalize H1 = H at hP hS ⊢
    have hP : va_P E.1 vwCl [(h0, .inr (12, mG q i_taped i_size i_sort i_what i_at i_end i_worth i_faultKind i_faultPlace i_got i_worked (nI dl) i_isPlanned u_15 u_16)), (q 51, .inl (E.2.1 0, 512, .inl a_least)), (q 55, .inl (E.2.1 0, 4, .inl u_17)), (q 54, .inl (E.2.1 0, 7, .inl u_18)), (q 53, .inl (E.2.1 0, 7, .inl u_19))] H := hP
    have hD : va_D A [(h0, .inr (12, mG q i_taped i_size i_sort i_what i_at i_end i_worth i_faultKind i_faultPlace i_got i_worked (nI dl) i_isPlanned u_15 u_16)), (q 51, .inl (E.2.1 0, 512, .inl a_least)), (q 55, .inl (E.2.1 0, 4, .inl u_17)), (q 54, .inl (E.2.1 0, 7, .inl u_18)), (q 53, .inl (E.2.1 0, 7, .inl u_19))] := hD
    refine lv_aload_n hx hb dX12_give_203 rfl (lv_at hl 1 rfl) ?_
    refine va_get (D := E.1) (ci := 12) (v := .ref (q 55)) (C := RX12) (T := TX12) (N := 59) hx hb hts inX12 hown hK hP 0 rfl rfl 55 (by decide) fl142 (fun _ h9 => h9) rfl dX12_give_204 ?_
    refine lv_iload_n hx hb dX12_give_207 rfl (lv_at hl 0 rfl) ?_
    refine lv_dup2_11 hx hb dX12_give_208 rfl rfl ?_
    refine va_iald hx hb hK hP 2 0 rfl rfl (show vp_in 0 4 from by unfold vp_in; decide) dX12_give_209 ?_
    refine lv_topi (fun x_21 ex_21 => ?_)
    have hv_22 : inR x_21 0 127 = true := by rw [ex_21]; exact hf_20 _ (vin_cl (show vp_in 0 4 from by unfold vp_in; decide))
    obtain ⟨w_23, hw_24, ew_25⟩ := inR_nI (n := 127) (by decide) hv_22
    subst ew_25
    refine lv_iconst (v := 1) hx hb dX12_give_210 (by decide) ?_
    refine lv_iload_n hx hb dX12_give_211 rfl (lv_at hl 2 rfl) ?_
    refine lv_ishl hx hb dX12_give_212 ?_
    refine lv_topi (fun x_26 ex_26 => ?_)
    obtain rfl : x_26 = 8 := ex_26.trans (by decide +kernel)
    refine lv_iconst (v := (-1)) hx hb dX12_give_213 (by decide) ?_
    refine lv_ixor hx hb dX12_give_214 ?_
    refine lv_topi (fun x_27 ex_27 => ?_)
    obtain rfl : x_27 = (-9) := ex_27.trans (by decide +kernel)
    refine lv_iand hx hb dX12_give_215 ?_
    refine lv_topi (fun x_28 ex_28 => ?_)
    refine va_iast hx hb hK hP hD hS 2 0 rfl rfl (show vp_in 0 4 from by unfold vp_in; decide) dX12_give_216 (fun H locs hP hD hS => ?_)
    have hP : va_P E.1 vwCl [(h0, .inr (12, mG q i_taped i_size i_sort i_what i_at i_end i_worth i_faultKind i_faultPlace i_got i_worked (nI dl) i_isPlanned u_15 u_16)), (q 51, .inl (E.2.1 0, 512, .inl a_least)), (q 55, .inl (E.2.1 0, 4, .inl (upd u_17 (Int32.toNatClampNeg 0) x_28))), (q 54, .inl (E.2.1 0, 7, .inl u_18)), (q 53, .inl (E.2.1 0, 7, .inl u_19))] H := hP
    have hD : va_D A [(h0, .inr (12, mG q i_taped i_size i_sort i_what i_at i_end i_worth i_faultKind i_faultPlace i_got i_worked (nI dl) i_isPlanned u_15 u_16)), (q 51, .inl (E.2.1 0, 512, .inl a_least)), (q 55, .inl (E.2.1 0, 4, .inl (upd u_17 (Int32.toNatClampNeg 0) x_28))), (q 54, .inl (E.2.1 0, 7, .inl u_18)), (q 53, .inl (E.2.1 0, 7, .inl u_19))] := hD
    obtain ⟨f_29, ef_29⟩ : ∃ g : Nat → Int32, g = upd u_17 (Int32.toNatClampNeg 0) x_28 := ⟨_, rfl⟩
    rw [← ef_29] at hP hD
    have hI_30 : ∀ k : Nat, k < 4 → inR (f_29 k) 0 127 = true := by rw [ef_29]; exact all_upd (P := fun z => inR z 0 127 = true) hf_20 (by rw [ex_28]; exact and_lt7 _ (by omega) 3 (by decide))
    refine lv_iinc (v := 1) (lv' := [(2, .int 1), (0, .ref h0), (1, .int 3)]) hx hb dX12_give_217 hl (k := 0) rfl (by decide) (by decide) rfl (fun ls hl => ?_)
    refine lv_goto (tgt := 172) hx hb dX12_give_220 (by decide) ?_
    refine lv_iload_n hx hb dX12_give_172 rfl (lv_at hl 0 rfl) ?_
    refine lv_iconst (v := 4) hx hb dX12_give_173 (by decide) ?_
    refine lv_icmp_ge (tgt := 223) hx hb dX12_give_174 (by decide) (fun c9 => absurd c9 (by decide)) (fun _ => ?_)
    refine lv_aload_n hx hb dX12_give_177 rfl (lv_at hl 1 rfl) ?_
    refine va_get (D := E.1) (ci := 12) (v := .ref (q 53)) (C := RX12) (T := TX12) (N := 59) hx hb hts inX12 hown hK hP 0 rfl rfl 53 (by decide) fl136 (fun _ h9 => h9) rfl dX12_give_178 ?_
    refine lv_iload_n hx hb dX12_give_181 rfl (lv_at hl 2 rfl) ?_
    refine lv_iload_n hx hb dX12_give_182 rfl (lv_at hl 0 rfl) ?_
    refine va_iast hx hb hK hP hD hS 4 0 rfl rfl (show vp_in 3 7 from by unfold vp_in; decide) dX12_give_183 (fun H locs hP hD hS => ?_)
    have hP : va_P E.1 vwCl [(h0, .inr (12, mG q i_taped i_size i_sort i_what i_at i_end i_worth i_faultKind i_faultPlace i_got i_worked (nI dl) i_isPlanned u_15 u_16)), (q 51, .inl (E.2.1 0, 512, .inl a_least)), (q 55, .inl (E.2.1 0, 4, .inl f_29)), (q 54, .inl (E.2.1 0, 7, .inl u_18)), (q 53, .inl (E.2.1 0, 7, .inl (upd u_19 (Int32.toNatClampNeg 3) 1)))] H := hP
    have hD : va_D A [(h0, .inr (12, mG q i_taped i_size i_sort i_what i_at i_end i_worth i_faultKind i_faultPlace i_got i_worked (nI dl) i_isPlanned u_15 u_16)), (q 51, .inl (E.2.1 0, 512, .inl a_least)), (q 55, .inl (E.2.1 0, 4, .inl f_29)), (q 54, .inl (E.2.1 0, 7, .inl u_18)), (q 53, .inl (E.2.1 0, 7, .inl (upd u_19 (Int32.toNatClampNeg 3) 1)))] := hD
    obtain ⟨f_31, ef_31⟩ : ∃ g : Nat → Int32, g = upd u_19 (Int32.toNatClampNeg 3) 1 := ⟨_, rfl⟩
    rw [← ef_31] at hP hD
    refine lv_aload_n hx hb dX12_give_184 rfl (lv_at hl 1 rfl) ?_
    refine va_get (D := E.1) (ci := 12) (v := .ref (q 55)) (C := RX12) (T := TX12) (N := 59) hx hb hts inX12 hown hK hP 0 rfl rfl 55 (by decide) fl142 (fun _ h9 => h9) rfl dX12_give_185 ?_
    refine lv_iload_n hx hb dX12_give_188 rfl (lv_at hl 0 rfl) ?_
    refine lv_dup2_11 hx hb dX12_give_189 rfl rfl ?_
    refine va_iald hx hb hK hP 2 0 rfl rfl (show vp_in 1 4 from by unfold vp_in; decide) dX12_give_190 ?_
    refine lv_topi (fun x_32 ex_32 => ?_)
    have hv_33 : inR x_32 0 127 = true := by rw [ex_32]; exact hI_30 _ (vin_cl (show vp_in 1 4 from by unfold vp_in; decide))
    obtain ⟨w_34, hw_35, ew_36⟩ := inR_nI (n := 127) (by decide) hv_33
    subst ew_36
    refine lv_iconst (v := 1) hx hb dX12_give_191 (by decide) ?_
    refine lv_iload_n hx hb dX12_give_192 rfl (lv_at hl 2 rfl) ?_
    refine lv_ishl hx hb dX12_give_193 ?_
    refine lv_topi (fun x_37 ex_37 => ?_)
    obtain rfl : x_37 = 8 := ex_37.trans (by decide +kernel)
    refine lv_ior hx hb dX12_give_194 ?_
    refine lv_topi (fun x_38 ex_38 => ?_)
    refine va_iast hx hb hK hP hD hS 2 0 rfl rfl (show vp_in 1 4 from by unfold vp_in; decide) dX12_give_195 (fun H locs hP hD hS => ?_)
    have hP : va_P E.1 vwCl [(h0, .inr (12, mG q i_taped i_size i_sort i_what i_at i_end i_worth i_faultKind i_faultPlace i_got i_worked (nI dl) i_isPlanned u_15 u_16)), (q 51, .inl (E.2.1 0, 512, .inl a_least)), (q 55, .inl (E.2.1 0, 4, .inl (upd f_29 (Int32.toNatClampNeg 1) x_38))), (q 54, .inl (E.2.1 0, 7, .inl u_18)), (q 53, .inl (E.2.1 0, 7, .inl f_31))] H := hP
    have hD : va_D A [(h0, .inr (12, mG q i_taped i_size i_sort i_what i_at i_end i_worth i_faultKind i_faultPlace i_got i_worked (nI dl) i_isPlanned u_15 u_16)), (q 51, .inl (E.2.1 0, 512, .inl a_least)), (q 55, .inl (E.2.1 0, 4, .inl (upd f_29 (Int32.toNatClampNeg 1) x_38))), (q 54, .inl (E.2.1 0, 7, .inl u_18)), (q 53, .inl (E.2.1 0, 7, .inl f_31))] := hD
    obtain ⟨f_39, ef_39⟩ : ∃ g : Nat → Int32, g = upd f_29 (Int32.toNatClampNeg 1) x_38 := ⟨_, rfl⟩
    rw [← ef_39] at hP hD
    have hI_40 : ∀ k : Nat, k < 4 → inR (f_39 k) 0 127 = true := by rw [ef_39]; exact all_upd (P := fun z => inR z 0 127 = true) hI_30 (by rw [ex_38]; exact or_lt7 _ (by omega) 3 (by decide))
    refine lv_aload_n hx hb dX12_give_196 rfl (lv_at hl 1 rfl) ?_
    refine lv_iload_n hx hb dX12_give_197 rfl (lv_at hl 2 rfl) ?_
    refine lv_iconst (v := 1) hx hb dX12_give_198 (by decide) ?_
    refine lv_iadd hx hb dX12_give_199 ?_
    refine lv_topi (fun x_41 ex_41 => ?_)
    obtain rfl : x_41 = 4 := ex_41.trans (by decide +kernel)
    have hPc := hP.sub (ws' := [(h0, .inr (12, mG q i_taped i_size i_sort i_what i_at i_end i_worth i_faultKind i_faultPlace i_got i_worked (nI dl) i_isPlanned u_15 u_16)), (q 51, .inl (E.2.1 0, 512, .inl a_least)), (q 55, .inl (E.2.1 0, 4, .inl f_39)), (q 54, .inl (E.2.1 0, 7, .inl u_18)), (q 53, .inl (E.2.1 0, 7, .inl f_31))]) [0, 1, 2, 3, 4] rfl
    have hDc := hD.sub (ws' := [(h0, .inr (12, mG q i_taped i_size i_sort i_what i_at i_end i_worth i_faultKind i_faultPlace i_got i_worked (nI dl) i_isPlanned u_15 u_16)), (q 51, .inl (E.2.1 0, 512, .inl a_least)), (q 55, .inl (E.2.1 0, 4, .inl f_39)), (q 54, .inl (E.2.1 0, 7, .inl u_18)), (q 53, .inl (E.2.1 0, 7, .inl f_31))]) [0, 1, 2, 3, 4] (by decide) rfl
    have hFc := va_free (wc := [(h0, .inr (12, mG q i_taped i_size i_sort i_what i_at i_end i_worth i_faultKind i_faultPlace i_got i_worked (nI dl) i_isPlanned u_15 u_16)), (q 51, .inl (E.2.1 0, 512, .inl a_least)), (q 55, .inl (E.2.1 0, 4, .inl f_39)), (q 54, .inl (E.2.1 0, 7, .inl u_18)), (q 53, .inl (E.2.1 0, 7, .inl f_31))]) hD hS hA [0, 1, 2, 3, 4] rfl
    refine va_callv (va_runV (As := [.int 4]) (rest := []) ⟨hx, hb, hml, hown, hts⟩ (c_X12_give4 l E h0 q i_taped i_size i_sort i_what i_at i_end i_worth i_faultKind i_faultPlace i_got i_worked i_isPlanned u_15 u_16 dl a_least f_39 u_18 f_31 H.size hdl hd2 hI_40) (cwV 1 hts gX12_give_X12_give rfl rfl rfl hdV_X12_give ⟨Nat.le_of_ble_eq_true rfl, Nat.le_of_ble_eq_true rfl⟩) ⟨pcW_blind, va_recv hK hPc (ci := 12) (q0 := 0) rfl rfl, (pcW_pre hPc hkn hDc hst hS hFc)⟩ rfl rfl hl.1 rfl (lv_room (Nat.le_of_ble_eq_true rfl)) dX12_give_200 ⟨Nat.le_of_ble_eq_true rfl, Nat.le_of_ble_eq_true rfl⟩) hS (fun q _ h => hFc q h) hFc (fun u t H1 locs ht hvm hw_43 hB hz1 hk1 hS => ?_)
    obtain ⟨u_44, u_45, u_46, u_47, u_48⟩ := u
    obtain ⟨hf_49, hP1, hD1⟩ := hB
    rw [ht] at hP1
    try dsimp only at hw_43
    obtain ⟨hP, hD⟩ := va_join (wr := []) (w1 := [(h0, .inr (12, mG q i_taped i_size i_sort i_what i_at i_end i_worth i_faultKind i_faultPlace i_got i_worked (nI dl) i_isPlanned u_44 u_45)), (q 51, .inl (E.2.1 0, 512, .inl a_least)), (q 55, .inl (E.2.1 0, 4, .inl u_46)), (q 54, .inl (E.2.1 0, 7, .inl u_47)), (q 53, .inl (E.2.1 0, 7, .inl u_48))]) hP hD [0, 1, 2, 3, 4] [] rfl rfl (by decide) (by decide) hk1 hFc hP1 hD1
    generalize H1 = H at hP hS ⊢
    have hP : va_P E.1 vwCl [(h0, .inr (12, mG q i_taped i_size i_sort i_what i_at i_end i_worth i_faultKind i_faultPlace i_got i_worked (nI dl) i_isPlanned u_44 u_45)), (q 51, .inl (E.2.1 0, 512, .inl a_least)), (q 55, .inl (E.2.1 0, 4, .inl u_46)), (q 54, .inl (E.2.1 0, 7, .inl u_47)), (q 53, .inl (E.2.1 0, 7, .inl u_48))] H := hP
    have hD : va_D A [(h0, .inr (12, mG q i_taped i_size i_sort i_what i_at i_end i_worth i_faultKind i_faultPlace i_got i_worked (nI dl) i_isPlanned u_44 u_45)), (q 51, .inl (E.2.1 0, 512, .inl a_least)), (q 55, .inl (E.2.1 0, 4, .inl u_46)), (q 54, .inl (E.2.1 0, 7, .inl u_47)), (q 53, .inl (E.2.1 0, 7, .inl u_48))] := hD
    refine lv_aload_n hx hb dX12_give_203 rfl (lv_at hl 1 rfl) ?_
    refine va_get (D := E.1) (ci := 12) (v := .ref (q 55)) (C := RX12) (T := TX12) (N := 59) hx hb hts inX12 hown hK hP 0 rfl rfl 55 (by decide) fl142 (fun _ h9 => h9) rfl dX12_give_204 ?_
    refine lv_iload_n hx hb dX12_give_207 rfl (lv_at hl 0 rfl) ?_
    refine lv_dup2_11 hx hb dX12_give_208 rfl rfl ?_
    refine va_iald hx hb hK hP 2 0 rfl rfl (show vp_in 1 4 from by unfold vp_in; decide) dX12_give_209 ?_
    refine lv_topi (fun x_50 ex_50 => ?_)
    have hv_51 : inR x_50 0 127 = true := by rw [ex_50]; exact hf_49 _ (vin_cl (show vp_in 1 4 from by unfold vp_in; decide))
    obtain ⟨w_52, hw_53, ew_54⟩ := inR_nI (n := 127) (by decide) hv_51
    subst ew_54
    refine lv_iconst (v := 1) hx hb dX12_give_210 (by decide) ?_
    refine lv_iload_n hx hb dX12_give_211 rfl (lv_at hl 2 rfl) ?_
    refine lv_ishl hx hb dX12_give_212 ?_
    refine lv_topi (fun x_55 ex_55 => ?_)
    obtain rfl : x_55 = 8 := ex_55.trans (by decide +kernel)
    refine lv_iconst (v := (-1)) hx hb dX12_give_213 (by decide) ?_
    refine lv_ixor hx hb dX12_give_214 ?_
    refine lv_topi (fun x_56 ex_56 => ?_)
    obtain rfl : x_56 = (-9) := ex_56.trans (by decide +kernel)
    refine lv_iand hx hb dX12_give_215 ?_
    refine lv_topi (fun x_57 ex_57 => ?_)
    refine va_iast hx hb hK hP hD hS 2 0 rfl rfl (show vp_in 1 4 from by unfold vp_in; decide) dX12_give_216 (fun H locs hP hD hS => ?_)
    have hP : va_P E.1 vwCl [(h0, .inr (12, mG q i_taped i_size i_sort i_what i_at i_end i_worth i_faultKind i_faultPlace i_got i_worked (nI dl) i_isPlanned u_44 u_45)), (q 51, .inl (E.2.1 0, 512, .inl a_least)), (q 55, .inl (E.2.1 0, 4, .inl (upd u_46 (Int32.toNatClampNeg 1) x_57))), (q 54, .inl (E.2.1 0, 7, .inl u_47)), (q 53, .inl (E.2.1 0, 7, .inl u_48))] H := hP
    have hD : va_D A [(h0, .inr (12, mG q i_taped i_size i_sort i_what i_at i_end i_worth i_faultKind i_faultPlace i_got i_worked (nI dl) i_isPlanned u_44 u_45)), (q 51, .inl (E.2.1 0, 512, .inl a_least)), (q 55, .inl (E.2.1 0, 4, .inl (upd u_46 (Int32.toNatClampNeg 1) x_57))), (q 54, .inl (E.2.1 0, 7, .inl u_47)), (q 53, .inl (E.2.1 0, 7, .inl u_48))] := hD
    obtain ⟨f_58, ef_58⟩ : ∃ g : Nat → Int32, g = upd u_46 (Int32.toNatClampNeg 1) x_57 := ⟨_, rfl⟩
    rw [← ef_58] at hP hD
    have hI_59 : ∀ k : Nat, k < 4 → inR (f_58 k) 0 127 = true := by rw [ef_58]; exact all_upd (P := fun z => inR z 0 127 = true) hf_49 (by rw [ex_57]; exact and_lt7 _ (by omega) 3 (by decide))
    refine lv_iinc (v := 2) (lv' := [(2, .int 2), (0, .ref h0), (1, .int 3)]) hx hb dX12_give_217 hl (k := 0) rfl (by decide) (by decide) rfl (fun ls hl => ?_)
    refine lv_goto (tgt := 172) hx hb dX12_give_220 (by decide) ?_
    refine lv_iload_n hx hb dX12_give_172 rfl (lv_at hl 0 rfl) ?_
    refine lv_iconst (v := 4) hx hb dX12_give_173 (by decide) ?_
    refine lv_icmp_ge (tgt := 223) hx hb dX12_give_174 (by decide) (fun c9 => absurd c9 (by decide)) (fun _ => ?_)
    refine lv_aload_n hx hb dX12_give_177 rfl (lv_at hl 1 rfl) ?_
    refine va_get (D := E.1) (ci := 12) (v := .ref (q 53)) (C := RX12) (T := TX12) (N := 59) hx hb hts inX12 hown hK hP 0 rfl rfl 53 (by decide) fl136 (fun _ h9 => h9) rfl dX12_give_178 ?_
    refine lv_iload_n hx hb dX12_give_181 rfl (lv_at hl 2 rfl) ?_
    refine lv_iload_n hx hb dX12_give_182 rfl (lv_at hl 0 rfl) ?_
    refine va_iast hx hb hK hP hD hS 4 0 rfl rfl (show vp_in 3 7 from by unfold vp_in; decide) dX12_give_183 (fun H locs hP hD hS => ?_)
    have hP : va_P E.1 vwCl [(h0, .inr (12, mG q i_taped i_size i_sort i_what i_at i_end i_worth i_faultKind i_faultPlace i_got i_worked (nI dl) i_isPlanned u_44 u_45)), (q 51, .inl (E.2.1 0, 512, .inl a_least)), (q 55, .inl (E.2.1 0, 4, .inl f_58)), (q 54, .inl (E.2.1 0, 7, .inl u_47)), (q 53, .inl (E.2.1 0, 7, .inl (upd u_48 (Int32.toNatClampNeg 3) 2)))] H := hP
    have hD : va_D A [(h0, .inr (12, mG q i_taped i_size i_sort i_what i_at i_end i_worth i_faultKind i_faultPlace i_got i_worked (nI dl) i_isPlanned u_44 u_45)), (q 51, .inl (E.2.1 0, 512, .inl a_least)), (q 55, .inl (E.2.1 0, 4, .inl f_58)), (q 54, .inl (E.2.1 0, 7, .inl u_47)), (q 53, .inl (E.2.1 0, 7, .inl (upd u_48 (Int32.toNatClampNeg 3) 2)))] := hD
    obtain ⟨f_60, ef_60⟩ : ∃ g : Nat → Int32, g = upd u_48 (Int32.toNatClampNeg 3) 2 := ⟨_, rfl⟩
    rw [← ef_60] at hP hD
    refine lv_aload_n hx hb dX12_give_184 rfl (lv_at hl 1 rfl) ?_
    refine va_get (D := E.1) (ci := 12) (v := .ref (q 55)) (C := RX12) (T := TX12) (N := 59) hx hb hts inX12 hown hK hP 0 rfl rfl 55 (by decide) fl142 (fun _ h9 => h9) rfl dX12_give_185 ?_
    refine lv_iload_n hx hb dX12_give_188 rfl (lv_at hl 0 rfl) ?_
    refine lv_dup2_11 hx hb dX12_give_189 rfl rfl ?_
    refine va_iald hx hb hK hP 2 0 rfl rfl (show vp_in 2 4 from by unfold vp_in; decide) dX12_give_190 ?_
    refine lv_topi (fun x_61 ex_61 => ?_)
    have hv_62 : inR x_61 0 127 = true := by rw [ex_61]; exact hI_59 _ (vin_cl (show vp_in 2 4 from by unfold vp_in; decide))
    obtain ⟨w_63, hw_64, ew_65⟩ := inR_nI (n := 127) (by decide) hv_62
    subst ew_65
    refine lv_iconst (v := 1) hx hb dX12_give_191 (by decide) ?_
    refine lv_iload_n hx hb dX12_give_192 rfl (lv_at hl 2 rfl) ?_
    refine lv_ishl hx hb dX12_give_193 ?_
    refine lv_topi (fun x_66 ex_66 => ?_)
    obtain rfl : x_66 = 8 := ex_66.trans (by decide +kernel)
    refine lv_ior hx hb dX12_give_194 ?_
    refine lv_topi (fun x_67 ex_67 => ?_)
    refine va_iast hx hb hK hP hD hS 2 0 rfl rfl (show vp_in 2 4 from by unfold vp_in; decide) dX12_give_195 (fun H locs hP hD hS => ?_)
    have hP : va_P E.1 vwCl [(h0, .inr (12, mG q i_taped i_size i_sort i_what i_at i_end i_worth i_faultKind i_faultPlace i_got i_worked (nI dl) i_isPlanned u_44 u_45)), (q 51, .inl (E.2.1 0, 512, .inl a_least)), (q 55, .inl (E.2.1 0, 4, .inl (upd f_58 (Int32.toNatClampNeg 2) x_67))), (q 54, .inl (E.2.1 0, 7, .inl u_47)), (q 53, .inl (E.2.1 0, 7, .inl f_60))] H := hP
    have hD : va_D A [(h0, .inr (12, mG q i_taped i_size i_sort i_what i_at i_end i_worth i_faultKind i_faultPlace i_got i_worked (nI dl) i_isPlanned u_44 u_45)), (q 51, .inl (E.2.1 0, 512, .inl a_least)), (q 55, .inl (E.2.1 0, 4, .inl (upd f_58 (Int32.toNatClampNeg 2) x_67))), (q 54, .inl (E.2.1 0, 7, .inl u_47)), (q 53, .inl (E.2.1 0, 7, .inl f_60))] := hD
    obtain ⟨f_68, ef_68⟩ : ∃ g : Nat → Int32, g = upd f_58 (Int32.toNatClampNeg 2) x_67 := ⟨_, rfl⟩
    rw [← ef_68] at hP hD
    have hI_69 : ∀ k : Nat, k < 4 → inR (f_68 k) 0 127 = true := by rw [ef_68]; exact all_upd (P := fun z => inR z 0 127 = true) hI_59 (by rw [ex_67]; exact or_lt7 _ (by omega) 3 (by decide))
    refine lv_aload_n hx hb dX12_give_196 rfl (lv_at hl 1 rfl) ?_
    refine lv_iload_n hx hb dX12_give_197 rfl (lv_at hl 2 rfl) ?_
    refine lv_iconst (v := 1) hx hb dX12_give_198 (by decide) ?_
    refine lv_iadd hx hb dX12_give_199 ?_
    refine lv_topi (fun x_70 ex_70 => ?_)
    obtain rfl : x_70 = 4 := ex_70.trans (by decide +kernel)
    have hPc := hP.sub (ws' := [(h0, .inr (12, mG q i_taped i_size i_sort i_what i_at i_end i_worth i_faultKind i_faultPlace i_got i_worked (nI dl) i_isPlanned u_44 u_45)), (q 51, .inl (E.2.1 0, 512, .inl a_least)), (q 55, .inl (E.2.1 0, 4, .inl f_68)), (q 54, .inl (E.2.1 0, 7, .inl u_47)), (q 53, .inl (E.2.1 0, 7, .inl f_60))]) [0, 1, 2, 3, 4] rfl
    have hDc := hD.sub (ws' := [(h0, .inr (12, mG q i_taped i_size i_sort i_what i_at i_end i_worth i_faultKind i_faultPlace i_got i_worked (nI dl) i_isPlanned u_44 u_45)), (q 51, .inl (E.2.1 0, 512, .inl a_least)), (q 55, .inl (E.2.1 0, 4, .inl f_68)), (q 54, .inl (E.2.1 0, 7, .inl u_47)), (q 53, .inl (E.2.1 0, 7, .inl f_60))]) [0, 1, 2, 3, 4] (by decide) rfl
    have hFc := va_free (wc := [(h0, .inr (12, mG q i_taped i_size i_sort i_what i_at i_end i_worth i_faultKind i_faultPlace i_got i_worked (nI dl) i_isPlanned u_44 u_45)), (q 51, .inl (E.2.1 0, 512, .inl a_least)), (q 55, .inl (E.2.1 0, 4, .inl f_68)), (q 54, .inl (E.2.1 0, 7, .inl u_47)), (q 53, .inl (E.2.1 0, 7, .inl f_60))]) hD hS hA [0, 1, 2, 3, 4] rfl
    refine va_callv (va_runV (As := [.int 4]) (rest := []) ⟨hx, hb, hml, hown, hts⟩ (c_X12_give4 l E h0 q i_taped i_size i_sort i_what i_at i_end i_worth i_faultKind i_faultPlace i_got i_worked i_isPlanned u_44 u_45 dl a_least f_68 u_47 f_60 H.size hdl hd2 hI_69) (cwV 1 hts gX12_give_X12_give rfl rfl rfl hdV_X12_give ⟨Nat.le_of_ble_eq_true rfl, Nat.le_of_ble_eq_true rfl⟩) ⟨pcW_blind, va_recv hK hPc (ci := 12) (q0 := 0) rfl rfl, (pcW_pre hPc hkn hDc hst hS hFc)⟩ rfl rfl hl.1 rfl (lv_room (Nat.le_of_ble_eq_true rfl)) dX12_give_200 ⟨Nat.le_of_ble_eq_true rfl, Nat.le_of_ble_eq_true rfl⟩) hS (fun q _ h => hFc q h) hFc (fun u t H1 locs ht hvm hw_72 hB hz1 hk1 hS => ?_)
    obtain ⟨u_73, u_74, u_75, u_76, u_77⟩ := u
    obtain ⟨hf_78, hP1, hD1⟩ := hB
    rw [ht] at hP1
    try dsimp only at hw_72
    obtain ⟨hP, hD⟩ := va_join (wr := []) (w1 := [(h0, .inr (12, mG q i_taped i_size i_sort i_what i_at i_end i_worth i_faultKind i_faultPlace i_got i_worked (nI dl) i_isPlanned u_73 u_74)), (q 51, .inl (E.2.1 0, 512, .inl a_least)), (q 55, .inl (E.2.1 0, 4, .inl u_75)), (q 54, .inl (E.2.1 0, 7, .inl u_76)), (q 53, .inl (E.2.1 0, 7, .inl u_77))]) hP hD [0, 1, 2, 3, 4] [] rfl rfl (by decide) (by decide) hk1 hFc hP1 hD1
    generalize H1 = H at hP hS ⊢
    have hP : va_P E.1 vwCl [(h0, .inr (12, mG q i_taped i_size i_sort i_what i_at i_end i_worth i_faultKind i_faultPlace i_got i_worked (nI dl) i_isPlanned u_73 u_74)), (q 51, .inl (E.2.1 0, 512, .inl a_least)), (q 55, .inl (E.2.1 0, 4, .inl u_75)), (q 54, .inl (E.2.1 0, 7, .inl u_76)), (q 53, .inl (E.2.1 0, 7, .inl u_77))] H := hP
    have hD : va_D A [(h0, .inr (12, mG q i_taped i_size i_sort i_what i_at i_end i_worth i_faultKind i_faultPlace i_got i_worked (nI dl) i_isPlanned u_73 u_74)), (q 51, .inl (E.2.1 0, 512, .inl a_least)), (q 55, .inl (E.2.1 0, 4, .inl u_75)), (q 54, .inl (E.2.1 0, 7, .inl u_76)), (q 53, .inl (E.2.1 0, 7, .inl u_77))] := hD
    refine lv_aload_n hx hb dX12_give_203 rfl (lv_at hl 1 rfl) ?_
    refine va_get (D := E.1) (ci := 12) (v := .ref (q 55)) (C := RX12) (T := TX12) (N := 59) hx hb hts inX12 hown hK hP 0 rfl rfl 55 (by decide) fl142 (fun _ h9 => h9) rfl dX12_give_204 ?_
    refine lv_iload_n hx hb dX12_give_207 rfl (lv_at hl 0 rfl) ?_
    refine lv_dup2_11 hx hb dX12_give_208 rfl rfl ?_
    refine va_iald hx hb hK hP 2 0 rfl rfl (show vp_in 2 4 from by unfold vp_in; decide) dX12_give_209 ?_
    refine lv_topi (fun x_79 ex_79 => ?_)
    have hv_80 : inR x_79 0 127 = true := by rw [ex_79]; exact hf_78 _ (vin_cl (show vp_in 2 4 from by unfold vp_in; decide))
    obtain ⟨w_81, hw_82, ew_83⟩ := inR_nI (n := 127) (by decide) hv_80
    subst ew_83
    refine lv_iconst (v := 1) hx hb dX12_give_210 (by decide) ?_
    refine lv_iload_n hx hb dX12_give_211 rfl (lv_at hl 2 rfl) ?_
    refine lv_ishl hx hb dX12_give_212 ?_
    refine lv_topi (fun x_84 ex_84 => ?_)
    obtain rfl : x_84 = 8 := ex_84.trans (by decide +kernel)
    refine lv_iconst (v := (-1)) hx hb dX12_give_213 (by decide) ?_
    refine lv_ixor hx hb dX12_give_214 ?_
    refine lv_topi (fun x_85 ex_85 => ?_)
    obtain rfl : x_85 = (-9) := ex_85.trans (by decide +kernel)
    refine lv_iand hx hb dX12_give_215 ?_
    refine lv_topi (fun x_86 ex_86 => ?_)
    refine va_iast hx hb hK hP hD hS 2 0 rfl rfl (show vp_in 2 4 from by unfold vp_in; decide) dX12_give_216 (fun H locs hP hD hS => ?_)
    have hP : va_P E.1 vwCl [(h0, .inr (12, mG q i_taped i_size i_sort i_what i_at i_end i_worth i_faultKind i_faultPlace i_got i_worked (nI dl) i_isPlanned u_73 u_74)), (q 51, .inl (E.2.1 0, 512, .inl a_least)), (q 55, .inl (E.2.1 0, 4, .inl (upd u_75 (Int32.toNatClampNeg 2) x_86))), (q 54, .inl (E.2.1 0, 7, .inl u_76)), (q 53, .inl (E.2.1 0, 7, .inl u_77))] H := hP
    have hD : va_D A [(h0, .inr (12, mG q i_taped i_size i_sort i_what i_at i_end i_worth i_faultKind i_faultPlace i_got i_worked (nI dl) i_isPlanned u_73 u_74)), (q 51, .inl (E.2.1 0, 512, .inl a_least)), (q 55, .inl (E.2.1 0, 4, .inl (upd u_75 (Int32.toNatClampNeg 2) x_86))), (q 54, .inl (E.2.1 0, 7, .inl u_76)), (q 53, .inl (E.2.1 0, 7, .inl u_77))] := hD
    obtain ⟨f_87, ef_87⟩ : ∃ g : Nat → Int32, g = upd u_75 (Int32.toNatClampNeg 2) x_86 := ⟨_, rfl⟩
    rw [← ef_87] at hP hD
    have hI_88 : ∀ k : Nat, k < 4 → inR (f_87 k) 0 127 = true := by rw [ef_87]; exact all_upd (P := fun z => inR z 0 127 = true) hf_78 (by rw [ex_86]; exact and_lt7 _ (by omega) 3 (by decide))
    refine lv_iinc (v := 3) (lv' := [(2, .int 3), (0, .ref h0), (1, .int 3)]) hx hb dX12_give_217 hl (k := 0) rfl (by decide) (by decide) rfl (fun ls hl => ?_)
    refine lv_goto (tgt := 172) hx hb dX12_give_220 (by decide) ?_
    refine lv_iload_n hx hb dX12_give_172 rfl (lv_at hl 0 rfl) ?_
    refine lv_iconst (v := 4) hx hb dX12_give_173 (by decide) ?_
    refine lv_icmp_ge (tgt := 223) hx hb dX12_give_174 (by decide) (fun c9 => absurd c9 (by decide)) (fun _ => ?_)
    refine lv_aload_n hx hb dX12_give_177 rfl (lv_at hl 1 rfl) ?_
    refine va_get (D := E.1) (ci := 12) (v := .ref (q 53)) (C := RX12) (T := TX12) (N := 59) hx hb hts inX12 hown hK hP 0 rfl rfl 53 (by decide) fl136 (fun _ h9 => h9) rfl dX12_give_178 ?_
    refine lv_iload_n hx hb dX12_give_181 rfl (lv_at hl 2 rfl) ?_
    refine lv_iload_n hx hb dX12_give_182 rfl (lv_at hl 0 rfl) ?_
    refine va_iast hx hb hK hP hD hS 4 0 rfl rfl (show vp_in 3 7 from by unfold vp_in; decide) dX12_give_183 (fun H locs hP hD hS => ?_)
    have hP : va_P E.1 vwCl [(h0, .inr (12, mG q i_taped i_size i_sort i_what i_at i_end i_worth i_faultKind i_faultPlace i_got i_worked (nI dl) i_isPlanned u_73 u_74)), (q 51, .inl (E.2.1 0, 512, .inl a_least)), (q 55, .inl (E.2.1 0, 4, .inl f_87)), (q 54, .inl (E.2.1 0, 7, .inl u_76)), (q 53, .inl (E.2.1 0, 7, .inl (upd u_77 (Int32.toNatClampNeg 3) 3)))] H := hP
    have hD : va_D A [(h0, .inr (12, mG q i_taped i_size i_sort i_what i_at i_end i_worth i_faultKind i_faultPlace i_got i_worked (nI dl) i_isPlanned u_73 u_74)), (q 51, .inl (E.2.1 0, 512, .inl a_least)), (q 55, .inl (E.2.1 0, 4, .inl f_87)), (q 54, .inl (E.2.1 0, 7, .inl u_76)), (q 53, .inl (E.2.1 0, 7, .inl (upd u_77 (Int32.toNatClampNeg 3) 3)))] := hD
    obtain ⟨f_89, ef_89⟩ : ∃ g : Nat → Int32, g = upd u_77 (Int32.toNatClampNeg 3) 3 := ⟨_, rfl⟩
    rw [← ef_89] at hP hD
    refine lv_aload_n hx hb dX12_give_184 rfl (lv_at hl 1 rfl) ?_
    refine va_get (D := E.1) (ci := 12) (v := .ref (q 55)) (C := RX12) (T := TX12) (N := 59) hx hb hts inX12 hown hK hP 0 rfl rfl 55 (by decide) fl142 (fun _ h9 => h9) rfl dX12_give_185 ?_
    refine lv_iload_n hx hb dX12_give_188 rfl (lv_at hl 0 rfl) ?_
    refine lv_dup2_11 hx hb dX12_give_189 rfl rfl ?_
    refine va_iald hx hb hK hP 2 0 rfl rfl (show vp_in 3 4 from by unfold vp_in; decide) dX12_give_190 ?_
    refine lv_topi (fun x_90 ex_90 => ?_)
    have hv_91 : inR x_90 0 127 = true := by rw [ex_90]; exact hI_88 _ (vin_cl (show vp_in 3 4 from by unfold vp_in; decide))
    obtain ⟨w_92, hw_93, ew_94⟩ := inR_nI (n := 127) (by decide) hv_91
    subst ew_94
    refine lv_iconst (v := 1) hx hb dX12_give_191 (by decide) ?_
    refine lv_iload_n hx hb dX12_give_192 rfl (lv_at hl 2 rfl) ?_
    refine lv_ishl hx hb dX12_give_193 ?_
    refine lv_topi (fun x_95 ex_95 => ?_)
    obtain rfl : x_95 = 8 := ex_95.trans (by decide +kernel)
    refine lv_ior hx hb dX12_give_194 ?_
    refine lv_topi (fun x_96 ex_96 => ?_)
    refine va_iast hx hb hK hP hD hS 2 0 rfl rfl (show vp_in 3 4 from by unfold vp_in; decide) dX12_give_195 (fun H locs hP hD hS => ?_)
    have hP : va_P E.1 vwCl [(h0, .inr (12, mG q i_taped i_size i_sort i_what i_at i_end i_worth i_faultKind i_faultPlace i_got i_worked (nI dl) i_isPlanned u_73 u_74)), (q 51, .inl (E.2.1 0, 512, .inl a_least)), (q 55, .inl (E.2.1 0, 4, .inl (upd f_87 (Int32.toNatClampNeg 3) x_96))), (q 54, .inl (E.2.1 0, 7, .inl u_76)), (q 53, .inl (E.2.1 0, 7, .inl f_89))] H := hP
    have hD : va_D A [(h0, .inr (12, mG q i_taped i_size i_sort i_what i_at i_end i_worth i_faultKind i_faultPlace i_got i_worked (nI dl) i_isPlanned u_73 u_74)), (q 51, .inl (E.2.1 0, 512, .inl a_least)), (q 55, .inl (E.2.1 0, 4, .inl (upd f_87 (Int32.toNatClampNeg 3) x_96))), (q 54, .inl (E.2.1 0, 7, .inl u_76)), (q 53, .inl (E.2.1 0, 7, .inl f_89))] := hD
    obtain ⟨f_97, ef_97⟩ : ∃ g : Nat → Int32, g = upd f_87 (Int32.toNatClampNeg 3) x_96 := ⟨_, rfl⟩
    rw [← ef_97] at hP hD
    have hI_98 : ∀ k : Nat, k < 4 → inR (f_97 k) 0 127 = true := by rw [ef_97]; exact all_upd (P := fun z => inR z 0 127 = true) hI_88 (by rw [ex_96]; exact or_lt7 _ (by omega) 3 (by decide))
    refine lv_aload_n hx hb dX12_give_196 rfl (lv_at hl 1 rfl) ?_
    refine lv_iload_n hx hb dX12_give_197 rfl (lv_at hl 2 rfl) ?_
    refine lv_iconst (v := 1) hx hb dX12_give_198 (by decide) ?_
    refine lv_iadd hx hb dX12_give_199 ?_
    refine lv_topi (fun x_99 ex_99 => ?_)
    obtain rfl : x_99 = 4 := ex_99.trans (by decide +kernel)
    have hPc := hP.sub (ws' := [(h0, .inr (12, mG q i_taped i_size i_sort i_what i_at i_end i_worth i_faultKind i_faultPlace i_got i_worked (nI dl) i_isPlanned u_73 u_74)), (q 51, .inl (E.2.1 0, 512, .inl a_least)), (q 55, .inl (E.2.1 0, 4, .inl f_97)), (q 54, .inl (E.2.1 0, 7, .inl u_76)), (q 53, .inl (E.2.1 0, 7, .inl f_89))]) [0, 1, 2, 3, 4] rfl
    have hDc := hD.sub (ws' := [(h0, .inr (12, mG q i_taped i_size i_sort i_what i_at i_end i_worth i_faultKind i_faultPlace i_got i_worked (nI dl) i_isPlanned u_73 u_74)), (q 51, .inl (E.2.1 0, 512, .inl a_least)), (q 55, .inl (E.2.1 0, 4, .inl f_97)), (q 54, .inl (E.2.1 0, 7, .inl u_76)), (q 53, .inl (E.2.1 0, 7, .inl f_89))]) [0, 1, 2, 3, 4] (by decide) rfl
    have hFc := va_free (wc := [(h0, .inr (12, mG q i_taped i_size i_sort i_what i_at i_end i_worth i_faultKind i_faultPlace i_got i_worked (nI dl) i_isPlanned u_73 u_74)), (q 51, .inl (E.2.1 0, 512, .inl a_least)), (q 55, .inl (E.2.1 0, 4, .inl f_97)), (q 54, .inl (E.2.1 0, 7, .inl u_76)), (q 53, .inl (E.2.1 0, 7, .inl f_89))]) hD hS hA [0, 1, 2, 3, 4] rfl
    refine va_callv (va_runV (As := [.int 4]) (rest := []) ⟨hx, hb, hml, hown, hts⟩ (c_X12_give4 l E h0 q i_taped i_size i_sort i_what i_at i_end i_worth i_faultKind i_faultPlace i_got i_worked i_isPlanned u_73 u_74 dl a_least f_97 u_76 f_89 H.size hdl hd2 hI_98) (cwV 1 hts gX12_give_X12_give rfl rfl rfl hdV_X12_give ⟨Nat.le_of_ble_eq_true rfl, Nat.le_of_ble_eq_true rfl⟩) ⟨pcW_blind, va_recv hK hPc (ci := 12) (q0 := 0) rfl rfl, (pcW_pre hPc hkn hDc hst hS hFc)⟩ rfl rfl hl.1 rfl (lv_room (Nat.le_of_ble_eq_true rfl)) dX12_give_200 ⟨Nat.le_of_ble_eq_true rfl, Nat.le_of_ble_eq_true rfl⟩) hS (fun q _ h => hFc q h) hFc (fun u t H1 locs ht hvm hw_101 hB hz1 hk1 hS => ?_)
    obtain ⟨u_102, u_103, u_104, u_105, u_106⟩ := u
    obtain ⟨hf_107, hP1, hD1⟩ := hB
    rw [ht] at hP1
    try dsimp only at hw_101
    obtain ⟨hP, hD⟩ := va_join (wr := []) (w1 := [(h0, .inr (12, mG q i_taped i_size i_sort i_what i_at i_end i_worth i_faultKind i_faultPlace i_got i_worked (nI dl) i_isPlanned u_102 u_103)), (q 51, .inl (E.2.1 0, 512, .inl a_least)), (q 55, .inl (E.2.1 0, 4, .inl u_104)), (q 54, .inl (E.2.1 0, 7, .inl u_105)), (q 53, .inl (E.2.1 0, 7, .inl u_106))]) hP hD [0, 1, 2, 3, 4] [] rfl rfl (by decide) (by decide) hk1 hFc hP1 hD1
    generalize H1 = H at hP hS ⊢
    have hP : va_P E.1 vwCl [(h0, .inr (12, mG q i_taped i_size i_sort i_what i_at i_end i_worth i_faultKind i_faultPlace i_got i_worked (nI dl) i_isPlanned u_102 u_103)), (q 51, .inl (E.2.1 0, 512, .inl a_least)), (q 55, .inl (E.2.1 0, 4, .inl u_104)), (q 54, .inl (E.2.1 0, 7, .inl u_105)), (q 53, .inl (E.2.1 0, 7, .inl u_106))] H := hP
    have hD : va_D A [(h0, .inr (12, mG q i_taped i_size i_sort i_what i_at i_end i_worth i_faultKind i_faultPlace i_got i_worked (nI dl) i_isPlanned u_102 u_103)), (q 51, .inl (E.2.1 0, 512, .inl a_least)), (q 55, .inl (E.2.1 0, 4, .inl u_104)), (q 54, .inl (E.2.1 0, 7, .inl u_105)), (q 53, .inl (E.2.1 0, 7, .inl u_106))] := hD
    refine lv_aload_n hx hb dX12_give_203 rfl (lv_at hl 1 rfl) ?_
    refine va_get (D := E.1) (ci := 12) (v := .ref (q 55)) (C := RX12) (T := TX12) (N := 59) hx hb hts inX12 hown hK hP 0 rfl rfl 55 (by decide) fl142 (fun _ h9 => h9) rfl dX12_give_204 ?_
    refine lv_iload_n hx hb dX12_give_207 rfl (lv_at hl 0 rfl) ?_
    refine lv_dup2_11 hx hb dX12_give_208 rfl rfl ?_
    refine va_iald hx hb hK hP 2 0 rfl rfl (show vp_in 3 4 from by unfold vp_in; decide) dX12_give_209 ?_
    refine lv_topi (fun x_108 ex_108 => ?_)
    have hv_109 : inR x_108 0 127 = true := by rw [ex_108]; exact hf_107 _ (vin_cl (show vp_in 3 4 from by unfold vp_in; decide))
    obtain ⟨w_110, hw_111, ew_112⟩ := inR_nI (n := 127) (by decide) hv_109
    subst ew_112
    refine lv_iconst (v := 1) hx hb dX12_give_210 (by decide) ?_
    refine lv_iload_n hx hb dX12_give_211 rfl (lv_at hl 2 rfl) ?_
    refine lv_ishl hx hb dX12_give_212 ?_
    refine lv_topi (fun x_113 ex_113 => ?_)
    obtain rfl : x_113 = 8 := ex_113.trans (by decide +kernel)
    refine lv_iconst (v := (-1)) hx hb dX12_give_213 (by decide) ?_
    refine lv_ixor hx hb dX12_give_214 ?_
    refine lv_topi (fun x_114 ex_114 => ?_)
    obtain rfl : x_114 = (-9) := ex_114.trans (by decide +kernel)
    refine lv_iand hx hb dX12_give_215 ?_
    refine lv_topi (fun x_115 ex_115 => ?_)
    refine va_iast hx hb hK hP hD hS 2 0 rfl rfl (show vp_in 3 4 from by unfold vp_in; decide) dX12_give_216 (fun H locs hP hD hS => ?_)
    have hP : va_P E.1 vwCl [(h0, .inr (12, mG q i_taped i_size i_sort i_what i_at i_end i_worth i_faultKind i_faultPlace i_got i_worked (nI dl) i_isPlanned u_102 u_103)), (q 51, .inl (E.2.1 0, 512, .inl a_least)), (q 55, .inl (E.2.1 0, 4, .inl (upd u_104 (Int32.toNatClampNeg 3) x_115))), (q 54, .inl (E.2.1 0, 7, .inl u_105)), (q 53, .inl (E.2.1 0, 7, .inl u_106))] H := hP
    have hD : va_D A [(h0, .inr (12, mG q i_taped i_size i_sort i_what i_at i_end i_worth i_faultKind i_faultPlace i_got i_worked (nI dl) i_isPlanned u_102 u_103)), (q 51, .inl (E.2.1 0, 512, .inl a_least)), (q 55, .inl (E.2.1 0, 4, .inl (upd u_104 (Int32.toNatClampNeg 3) x_115))), (q 54, .inl (E.2.1 0, 7, .inl u_105)), (q 53, .inl (E.2.1 0, 7, .inl u_106))] := hD
    obtain ⟨f_116, ef_116⟩ : ∃ g : Nat → Int32, g = upd u_104 (Int32.toNatClampNeg 3) x_115 := ⟨_, rfl⟩
    rw [← ef_116] at hP hD
    have hI_117 : ∀ k : Nat, k < 4 → inR (f_116 k) 0 127 = true := by rw [ef_116]; exact all_upd (P := fun z => inR z 0 127 = true) hf_107 (by rw [ex_115]; exact and_lt7 _ (by omega) 3 (by decide))
    refine lv_iinc (v := 4) (lv' := [(2, .int 4), (0, .ref h0), (1, .int 3)]) hx hb dX12_give_217 hl (k := 0) rfl (by decide) (by decide) rfl (fun ls hl => ?_)
    refine lv_goto (tgt := 172) hx hb dX12_give_220 (by decide) ?_
    refine lv_iload_n hx hb dX12_give_172 rfl (lv_at hl 0 rfl) ?_
    refine lv_iconst (v := 4) hx hb dX12_give_173 (by decide) ?_
    refine lv_icmp_ge (tgt := 223) hx hb dX12_give_174 (by decide) (fun _ => ?_) (fun c9 => absurd c9 (by decide))
    refine lv_aload_n hx hb dX12_give_223 rfl (lv_at hl 1 rfl) ?_
    refine va_get (D := E.1) (ci := 12) (v := .ref (q 53)) (C := RX12) (T := TX12) (N := 59) hx hb hts inX12 hown hK hP 0 rfl rfl 53 (by decide) fl136 (fun _ h9 => h9) rfl dX12_give_224 ?_
    refine lv_iload_n hx hb dX12_give_227 rfl (lv_at hl 2 rfl) ?_
    refine lv_iconst (v := (-1)) hx hb dX12_give_228 (by decide) ?_
    refine va_iast hx hb hK hP hD hS 4 0 rfl rfl (show vp_in 3 7 from by unfold vp_in; decide) dX12_give_229 (fun H locs hP hD hS => ?_)
    have hP : va_P E.1 vwCl [(h0, .inr (12, mG q i_taped i_size i_sort i_what i_at i_end i_worth i_faultKind i_faultPlace i_got i_worked (nI dl) i_isPlanned u_102 u_103)), (q 51, .inl (E.2.1 0, 512, .inl a_least)), (q 55, .inl (E.2.1 0, 4, .inl f_116)), (q 54, .inl (E.2.1 0, 7, .inl u_105)), (q 53, .inl (E.2.1 0, 7, .inl (upd u_106 (Int32.toNatClampNeg 3) (-1))))] H := hP
    have hD : va_D A [(h0, .inr (12, mG q i_taped i_size i_sort i_what i_at i_end i_worth i_faultKind i_faultPlace i_got i_worked (nI dl) i_isPlanned u_102 u_103)), (q 51, .inl (E.2.1 0, 512, .inl a_least)), (q 55, .inl (E.2.1 0, 4, .inl f_116)), (q 54, .inl (E.2.1 0, 7, .inl u_105)), (q 53, .inl (E.2.1 0, 7, .inl (upd u_106 (Int32.toNatClampNeg 3) (-1))))] := hD
    obtain ⟨f_118, ef_118⟩ : ∃ g : Nat → Int32, g = upd u_106 (Int32.toNatClampNeg 3) (-1) := ⟨_, rfl⟩
    rw [← ef_118] at hP hD
    refine lv_aload_n hx hb dX12_give_230 rfl (lv_at hl 1 rfl) ?_
    refine lv_iload_n hx hb dX12_give_231 rfl (lv_at hl 2 rfl) ?_
    refine lv_iconst (v := 1) hx hb dX12_give_232 (by decide) ?_
    refine lv_iadd hx hb dX12_give_233 ?_
    refine lv_topi (fun x_119 ex_119 => ?_)
    obtain rfl : x_119 = 4 := ex_119.trans (by decide +kernel)
    have hPc := hP.sub (ws' := [(h0, .inr (12, mG q i_taped i_size i_sort i_what i_at i_end i_worth i_faultKind i_faultPlace i_got i_worked (nI dl) i_isPlanned u_102 u_103)), (q 51, .inl (E.2.1 0, 512, .inl a_least)), (q 55, .inl (E.2.1 0, 4, .inl f_116)), (q 54, .inl (E.2.1 0, 7, .inl u_105)), (q 53, .inl (E.2.1 0, 7, .inl f_118))]) [0, 1, 2, 3, 4] rfl
    have hDc := hD.sub (ws' := [(h0, .inr (12, mG q i_taped i_size i_sort i_what i_at i_end i_worth i_faultKind i_faultPlace i_got i_worked (nI dl) i_isPlanned u_102 u_103)), (q 51, .inl (E.2.1 0, 512, .inl a_least)), (q 55, .inl (E.2.1 0, 4, .inl f_116)), (q 54, .inl (E.2.1 0, 7, .inl u_105)), (q 53, .inl (E.2.1 0, 7, .inl f_118))]) [0, 1, 2, 3, 4] (by decide) rfl
    have hFc := va_free (wc := [(h0, .inr (12, mG q i_taped i_size i_sort i_what i_at i_end i_worth i_faultKind i_faultPlace i_got i_worked (nI dl) i_isPlanned u_102 u_103)), (q 51, .inl (E.2.1 0, 512, .inl a_least)), (q 55, .inl (E.2.1 0, 4, .inl f_116)), (q 54, .inl (E.2.1 0, 7, .inl u_105)), (q 53, .inl (E.2.1 0, 7, .inl f_118))]) hD hS hA [0, 1, 2, 3, 4] rfl
    refine va_callv (va_runV (As := [.int 4]) (rest := []) ⟨hx, hb, hml, hown, hts⟩ (c_X12_give4 l E h0 q i_taped i_size i_sort i_what i_at i_end i_worth i_faultKind i_faultPlace i_got i_worked i_isPlanned u_102 u_103 dl a_least f_116 u_105 f_118 H.size hdl hd2 hI_117) (cwV 1 hts gX12_give_X12_give rfl rfl rfl hdV_X12_give ⟨Nat.le_of_ble_eq_true rfl, Nat.le_of_ble_eq_true rfl⟩) ⟨pcW_blind, va_recv hK hPc (ci := 12) (q0 := 0) rfl rfl, (pcW_pre hPc hkn hDc hst hS hFc)⟩ rfl rfl hl.1 rfl (lv_room (Nat.le_of_ble_eq_true rfl)) dX12_give_234 ⟨Nat.le_of_ble_eq_true rfl, Nat.le_of_ble_eq_true rfl⟩) hS (fun q _ h => hFc q h) hFc (fun u t H1 locs ht hvm hw_121 hB hz1 hk1 hS => ?_)
    obtain ⟨u_122, u_123, u_124, u_125, u_126⟩ := u
    obtain ⟨hf_127, hP1, hD1⟩ := hB
    rw [ht] at hP1
    try dsimp only at hw_121
    obtain ⟨hP, hD⟩ := va_join (wr := []) (w1 := [(h0, .inr (12, mG q i_taped i_size i_sort i_what i_at i_end i_worth i_faultKind i_faultPlace i_got i_worked (nI dl) i_isPlanned u_122 u_123)), (q 51, .inl (E.2.1 0, 512, .inl a_least)), (q 55, .inl (E.2.1 0, 4, .inl u_124)), (q 54, .inl (E.2.1 0, 7, .inl u_125)), (q 53, .inl (E.2.1 0, 7, .inl u_126))]) hP hD [0, 1, 2, 3, 4] [] rfl rfl (by decide) (by decide) hk1 hFc hP1 hD1
    generalize H1 = H at hP hS ⊢
    have hP : va_P E.1 vwCl [(h0, .inr (12, mG q i_taped i_size i_sort i_what i_at i_end i_worth i_faultKind i_faultPlace i_got i_worked (nI dl) i_isPlanned u_122 u_123)), (q 51, .inl (E.2.1 0, 512, .inl a_least)), (q 55, .inl (E.2.1 0, 4, .inl u_124)), (q 54, .inl (E.2.1 0, 7, .inl u_125)), (q 53, .inl (E.2.1 0, 7, .inl u_126))] H := hP
    have hD : va_D A [(h0, .inr (12, mG q i_taped i_size i_sort i_what i_at i_end i_worth i_faultKind i_faultPlace i_got i_worked (nI dl) i_isPlanned u_122 u_123)), (q 51, .inl (E.2.1 0, 512, .inl a_least)), (q 55, .inl (E.2.1 0, 4, .inl u_124)), (q 54, .inl (E.2.1 0, 7, .inl u_125)), (q 53, .inl (E.2.1 0, 7, .inl u_126))] := hD
    have hP9 := hP.sub (ws' := [(h0, .inr (12, mG q i_taped i_size i_sort i_what i_at i_end i_worth i_faultKind i_faultPlace i_got i_worked (nI dl) i_isPlanned u_122 u_123)), (q 51, .inl (E.2.1 0, 512, .inl a_least)), (q 55, .inl (E.2.1 0, 4, .inl u_124)), (q 54, .inl (E.2.1 0, 7, .inl u_125)), (q 53, .inl (E.2.1 0, 7, .inl u_126))]) [0, 1, 2, 3, 4] rfl
    have hD9 := hD.sub (ws' := [(h0, .inr (12, mG q i_taped i_size i_sort i_what i_at i_end i_worth i_faultKind i_faultPlace i_got i_worked (nI dl) i_isPlanned u_122 u_123)), (q 51, .inl (E.2.1 0, 512, .inl a_least)), (q 55, .inl (E.2.1 0, 4, .inl u_124)), (q 54, .inl (E.2.1 0, 7, .inl u_125)), (q 53, .inl (E.2.1 0, 7, .inl u_126))]) [0, 1, 2, 3, 4] (by decide) rfl
    exact W.vret hx hb hr (fun t ht hW => ⟨⟨(u_122, u_123, u_124, u_125, u_126), rfl, trivial, hf_127, by rw [ht]; exact hP9, hD9⟩, hS.F ht⟩) hS.2.2 dX12_give_237
  · refine lv_iconst (v := 0) hx hb dX12_give_8 (by decide) ?_
    refine lv_istore_n (lv' := [(2, .int 0), (0, .ref h0), (1, .int 3)]) hx hb dX12_give_9 rfl hl (by decide) rfl (fun ls hl => ?_)
    refine lv_iconst (v := 0) hx hb dX12_give_10 (by decide) ?_
    refine lv_istore_n (lv' := [(3, .int 0), (2, .int 0), (0, .ref h0), (1, .int 3)]) hx hb dX12_give_11 rfl hl (by decide) rfl (fun ls hl => ?_)
    refine lv_iconst (v := 0) hx hb dX12_give_12 (by decide) ?_
    refine lv_istore (lv' := [(4, .int 0), (3, .int 0), (2, .int 0), (0, .ref h0), (1, .int 3)]) hx hb dX12_give_13 hl (by decide) rfl (fun ls hl => ?_)
    refine lv_iload hx hb dX12_give_15 (lv_at hl 0 rfl) ?_
    refine lv_iconst (v := 4) hx hb dX12_give_17 (by decide) ?_
    refine lv_icmp_ge (tgt := 102) hx hb dX12_give_18 (by decide) (fun c9 => absurd c9 (by decide)) (fun _ => ?_)
    refine lv_aload_n hx hb dX12_give_21 rfl (lv_at hl 3 rfl) ?_
    refine va_get (D := E.1) (ci := 12) (v := .ref (q 51)) (C := RX12) (T := TX12) (N := 59) hx hb hts inX12 hown hK hP 0 rfl rfl 51 (by decide) fl130 (fun _ h9 => h9) rfl dX12_give_22 ?_
    refine lv_sipush (v := 128) hx hb dX12_give_25 (by decide) ?_
    refine lv_iload hx hb dX12_give_28 (lv_at hl 0 rfl) ?_
    refine lv_imul hx hb dX12_give_30 ?_
    refine lv_topi (fun x_128 ex_128 => ?_)
    obtain rfl : x_128 = 0 := ex_128.trans (by decide +kernel)
    refine lv_aload_n hx hb dX12_give_31 rfl (lv_at hl 3 rfl) ?_
    refine va_get (D := E.1) (ci := 12) (v := .ref (q 55)) (C := RX12) (T := TX12) (N := 59) hx hb hts inX12 hown hK hP 0 rfl rfl 55 (by decide) fl142 (fun _ h9 => h9) rfl dX12_give_32 ?_
    refine lv_iload hx hb dX12_give_35 (lv_at hl 0 rfl) ?_
    refine va_iald hx hb hK hP 2 0 rfl rfl (show vp_in 0 4 from by unfold vp_in; decide) dX12_give_37 ?_
    refine lv_topi (fun x_129 ex_129 => ?_)
    have hv_130 : inR x_129 0 127 = true := by rw [ex_129]; exact hI_sets _ (vin_cl (show vp_in 0 4 from by unfold vp_in; decide))
    obtain ⟨w_131, hw_132, ew_133⟩ := inR_nI (n := 127) (by decide) hv_130
    subst ew_133
    refine lv_iadd hx hb dX12_give_38 ?_
    refine lv_topi (fun x_134 ex_134 => ?_)
    obtain rfl : x_134 = nI (0 + w_131) := ex_134.trans (nI_add 0 w_131)
    have hi_135 : vp_in (nI (0 + w_131)) 512 := vp_in_nI (by omega) (by decide)
    refine va_iald hx hb hK hP 1 0 rfl rfl hi_135 dX12_give_39 ?_
    refine lv_topi (fun x_136 ex_136 => ?_)
    refine lv_iconst (v := (-1)) hx hb dX12_give_40 (by decide) ?_
    refine lv_icmp_ne (tgt := 45) hx hb dX12_give_41 (by decide) (fun c_137 => ?_) (fun c_137 => ?_)
    · refine lv_iload_n hx hb dX12_give_45 rfl (lv_at hl 1 rfl) ?_
      refine lv_aload_n hx hb dX12_give_46 rfl (lv_at hl 3 rfl) ?_
      refine va_get (D := E.1) (ci := 12) (v := .ref (q 51)) (C := RX12) (T := TX12) (N := 59) hx hb hts inX12 hown hK hP 0 rfl rfl 51 (by decide) fl130 (fun _ h9 => h9) rfl dX12_give_47 ?_
      refine lv_sipush (v := 128) hx hb dX12_give_50 (by decide) ?_
      refine lv_iload hx hb dX12_give_53 (lv_at hl 0 rfl) ?_
      refine lv_imul hx hb dX12_give_55 ?_
      refine lv_topi (fun x_138 ex_138 => ?_)
      obtain rfl : x_138 = 0 := ex_138.trans (by decide +kernel)
      refine lv_aload_n hx hb dX12_give_56 rfl (lv_at hl 3 rfl) ?_
      refine va_get (D := E.1) (ci := 12) (v := .ref (q 55)) (C := RX12) (T := TX12) (N := 59) hx hb hts inX12 hown hK hP 0 rfl rfl 55 (by decide) fl142 (fun _ h9 => h9) rfl dX12_give_57 ?_
      refine lv_iload hx hb dX12_give_60 (lv_at hl 0 rfl) ?_
      refine va_iald hx hb hK hP 2 0 rfl rfl (show vp_in 0 4 from by unfold vp_in; decide) dX12_give_62 ?_
      refine lv_topi (fun x_139 ex_139 => ?_)
      obtain rfl : x_139 = nI w_131 := ex_139.trans ex_129.symm
      refine lv_iadd hx hb dX12_give_63 ?_
      refine lv_topi (fun x_140 ex_140 => ?_)
      obtain rfl : x_140 = nI (0 + w_131) := ex_140.trans (nI_add 0 w_131)
      refine va_iald hx hb hK hP 1 0 rfl rfl hi_135 dX12_give_64 ?_
      refine lv_topi (fun x_141 ex_141 => ?_)
      refine lv_iadd hx hb dX12_give_65 ?_
      refine lv_topi (fun x_142 ex_142 => ?_)
      refine lv_istore_n (lv' := [(3, .int x_142), (4, .int 0), (2, .int 0), (0, .ref h0), (1, .int 3)]) hx hb dX12_give_66 rfl hl (by decide) rfl (fun ls hl => ?_)
      refine lv_aload_n hx hb dX12_give_67 rfl (lv_at hl 3 rfl) ?_
      refine va_get (D := E.1) (ci := 12) (v := .ref (q 55)) (C := RX12) (T := TX12) (N := 59) hx hb hts inX12 hown hK hP 0 rfl rfl 55 (by decide) fl142 (fun _ h9 => h9) rfl dX12_give_68 ?_
      refine lv_iload hx hb dX12_give_71 (lv_at hl 1 rfl) ?_
      refine va_iald hx hb hK hP 2 0 rfl rfl (show vp_in 0 4 from by unfold vp_in; decide) dX12_give_73 ?_
      refine lv_topi (fun x_143 ex_143 => ?_)
      obtain rfl : x_143 = nI w_131 := ex_143.trans ex_129.symm
      refine lv_istore (lv' := [(5, .int (nI w_131)), (3, .int x_142), (4, .int 0), (2, .int 0), (0, .ref h0), (1, .int 3)]) hx hb dX12_give_74 hl (by decide) rfl (fun ls hl => ?_)
      have hPl := hP.sub (ws' := [(h0, .inr (12, mG q i_taped i_size i_sort i_what i_at i_end i_worth i_faultKind i_faultPlace i_got i_worked (nI dl) i_isPlanned i_bestDone i_bestCost)), (q 51, .inl (E.2.1 0, 512, .inl a_least)), (q 55, .inl (E.2.1 0, 4, .inl a_sets)), (q 54, .inl (E.2.1 0, 7, .inl a_bestGiven)), (q 53, .inl (E.2.1 0, 7, .inl a_given))]) [0, 1, 2, 3, 4] rfl
      have hDl := hD.sub (ws' := [(h0, .inr (12, mG q i_taped i_size i_sort i_what i_at i_end i_worth i_faultKind i_faultPlace i_got i_worked (nI dl) i_isPlanned i_bestDone i_bestCost)), (q 51, .inl (E.2.1 0, 512, .inl a_least)), (q 55, .inl (E.2.1 0, 4, .inl a_sets)), (q 54, .inl (E.2.1 0, 7, .inl a_bestGiven)), (q 53, .inl (E.2.1 0, 7, .inl a_given))]) [0, 1, 2, 3, 4] (by decide) rfl
      refine lm_bits E h0 q i_taped i_size i_sort i_what i_at i_end i_worth i_faultKind i_faultPlace i_got i_worked i_isPlanned i_bestDone i_bestCost dl x_142 0 ([(q 51, .inl (E.2.1 0, 512, .inl a_least)), (q 55, .inl (E.2.1 0, 4, .inl a_sets)), (q 54, .inl (E.2.1 0, 7, .inl a_bestGiven)), (q 53, .inl (E.2.1 0, 7, .inl a_given))]) hx hb hml hown hts hkn hst hA  (fun n_144 H locs ls  hP hD hS hl => ?_) (w_131 + 1) w_131 0 _ _ _ (Nat.lt_succ_self _) hPl hDl hS (lv_sub hl [4, 3, 1, 2, 0] rfl)
      have hP : va_P E.1 vwCl [(h0, .inr (12, mG q i_taped i_size i_sort i_what i_at i_end i_worth i_faultKind i_faultPlace i_got i_worked (nI dl) i_isPlanned i_bestDone i_bestCost)), (q 51, .inl (E.2.1 0, 512, .inl a_least)), (q 55, .inl (E.2.1 0, 4, .inl a_sets)), (q 54, .inl (E.2.1 0, 7, .inl a_bestGiven)), (q 53, .inl (E.2.1 0, 7, .inl a_given))] H := hP
      have hD : va_D A [(h0, .inr (12, mG q i_taped i_size i_sort i_what i_at i_end i_worth i_faultKind i_faultPlace i_got i_worked (nI dl) i_isPlanned i_bestDone i_bestCost)), (q 51, .inl (E.2.1 0, 512, .inl a_least)), (q 55, .inl (E.2.1 0, 4, .inl a_sets)), (q 54, .inl (E.2.1 0, 7, .inl a_bestGiven)), (q 53, .inl (E.2.1 0, 7, .inl a_given))] := hD
      refine lv_iinc (v := 1) (lv' := [(4, .int 1), (0, .ref h0), (2, .int n_144), (3, .int x_142)]) hx hb dX12_give_96 hl (k := 3) rfl (by decide) (by decide) rfl (fun ls hl => ?_)
      refine lv_goto (tgt := 15) hx hb dX12_give_99 (by decide) ?_
      refine lv_iload hx hb dX12_give_15 (lv_at hl 0 rfl) ?_
      refine lv_iconst (v := 4) hx hb dX12_give_17 (by decide) ?_
      refine lv_icmp_ge (tgt := 102) hx hb dX12_give_18 (by decide) (fun c9 => absurd c9 (by decide)) (fun _ => ?_)
      refine lv_aload_n hx hb dX12_give_21 rfl (lv_at hl 1 rfl) ?_
      refine va_get (D := E.1) (ci := 12) (v := .ref (q 51)) (C := RX12) (T := TX12) (N := 59) hx hb hts inX12 hown hK hP 0 rfl rfl 51 (by decide) fl130 (fun _ h9 => h9) rfl dX12_give_22 ?_
      refine lv_sipush (v := 128) hx hb dX12_give_25 (by decide) ?_
      refine lv_iload hx hb dX12_give_28 (lv_at hl 0 rfl) ?_
      refine lv_imul hx hb dX12_give_30 ?_
      refine lv_topi (fun x_145 ex_145 => ?_)
      obtain rfl : x_145 = 128 := ex_145.trans (by decide +kernel)
      refine lv_aload_n hx hb dX12_give_31 rfl (lv_at hl 1 rfl) ?_
      refine va_get (D := E.1) (ci := 12) (v := .ref (q 55)) (C := RX12) (T := TX12) (N := 59) hx hb hts inX12 hown hK hP 0 rfl rfl 55 (by decide) fl142 (fun _ h9 => h9) rfl dX12_give_32 ?_
      refine lv_iload hx hb dX12_give_35 (lv_at hl 0 rfl) ?_
      refine va_iald hx hb hK hP 2 0 rfl rfl (show vp_in 1 4 from by unfold vp_in; decide) dX12_give_37 ?_
      refine lv_topi (fun x_146 ex_146 => ?_)
      have hv_147 : inR x_146 0 127 = true := by rw [ex_146]; exact hI_sets _ (vin_cl (show vp_in 1 4 from by unfold vp_in; decide))
      obtain ⟨w_148, hw_149, ew_150⟩ := inR_nI (n := 127) (by decide) hv_147
      subst ew_150
      refine lv_iadd hx hb dX12_give_38 ?_
      refine lv_topi (fun x_151 ex_151 => ?_)
      obtain rfl : x_151 = nI (128 + w_148) := ex_151.trans (nI_add 128 w_148)
      have hi_152 : vp_in (nI (128 + w_148)) 512 := vp_in_nI (by omega) (by decide)
      refine va_iald hx hb hK hP 1 0 rfl rfl hi_152 dX12_give_39 ?_
      refine lv_topi (fun x_153 ex_153 => ?_)
      refine lv_iconst (v := (-1)) hx hb dX12_give_40 (by decide) ?_
      refine lv_icmp_ne (tgt := 45) hx hb dX12_give_41 (by decide) (fun c_154 => ?_) (fun c_154 => ?_)
      · refine lv_iload_n hx hb dX12_give_45 rfl (lv_at hl 3 rfl) ?_
        refine lv_aload_n hx hb dX12_give_46 rfl (lv_at hl 1 rfl) ?_
        refine va_get (D := E.1) (ci := 12) (v := .ref (q 51)) (C := RX12) (T := TX12) (N := 59) hx hb hts inX12 hown hK hP 0 rfl rfl 51 (by decide) fl130 (fun _ h9 => h9) rfl dX12_give_47 ?_
        refine lv_sipush (v := 128) hx hb dX12_give_50 (by decide) ?_
        refine lv_iload hx hb dX12_give_53 (lv_at hl 0 rfl) ?_
        refine lv_imul hx hb dX12_give_55 ?_
        refine lv_topi (fun x_155 ex_155 => ?_)
        obtain rfl : x_155 = 128 := ex_155.trans (by decide +kernel)
        refine lv_aload_n hx hb dX12_give_56 rfl (lv_at hl 1 rfl) ?_
        refine va_get (D := E.1) (ci := 12) (v := .ref (q 55)) (C := RX12) (T := TX12) (N := 59) hx hb hts inX12 hown hK hP 0 rfl rfl 55 (by decide) fl142 (fun _ h9 => h9) rfl dX12_give_57 ?_
        refine lv_iload hx hb dX12_give_60 (lv_at hl 0 rfl) ?_
        refine va_iald hx hb hK hP 2 0 rfl rfl (show vp_in 1 4 from by unfold vp_in; decide) dX12_give_62 ?_
        refine lv_topi (fun x_156 ex_156 => ?_)
        obtain rfl : x_156 = nI w_148 := ex_156.trans ex_146.symm
        refine lv_iadd hx hb dX12_give_63 ?_
        refine lv_topi (fun x_157 ex_157 => ?_)
        obtain rfl : x_157 = nI (128 + w_148) := ex_157.trans (nI_add 128 w_148)
        refine va_iald hx hb hK hP 1 0 rfl rfl hi_152 dX12_give_64 ?_
        refine lv_topi (fun x_158 ex_158 => ?_)
        refine lv_iadd hx hb dX12_give_65 ?_
        refine lv_topi (fun x_159 ex_159 => ?_)
        refine lv_istore_n (lv' := [(3, .int x_159), (4, .int 1), (0, .ref h0), (2, .int n_144)]) hx hb dX12_give_66 rfl hl (by decide) rfl (fun ls hl => ?_)
        refine lv_aload_n hx hb dX12_give_67 rfl (lv_at hl 2 rfl) ?_
        refine va_get (D := E.1) (ci := 12) (v := .ref (q 55)) (C := RX12) (T := TX12) (N := 59) hx hb hts inX12 hown hK hP 0 rfl rfl 55 (by decide) fl142 (fun _ h9 => h9) rfl dX12_give_68 ?_
        refine lv_iload hx hb dX12_give_71 (lv_at hl 1 rfl) ?_
        refine va_iald hx hb hK hP 2 0 rfl rfl (show vp_in 1 4 from by unfold vp_in; decide) dX12_give_73 ?_
        refine lv_topi (fun x_160 ex_160 => ?_)
        obtain rfl : x_160 = nI w_148 := ex_160.trans ex_146.symm
        refine lv_istore (lv' := [(5, .int (nI w_148)), (3, .int x_159), (4, .int 1), (0, .ref h0), (2, .int n_144)]) hx hb dX12_give_74 hl (by decide) rfl (fun ls hl => ?_)
        have hPl := hP.sub (ws' := [(h0, .inr (12, mG q i_taped i_size i_sort i_what i_at i_end i_worth i_faultKind i_faultPlace i_got i_worked (nI dl) i_isPlanned i_bestDone i_bestCost)), (q 51, .inl (E.2.1 0, 512, .inl a_least)), (q 55, .inl (E.2.1 0, 4, .inl a_sets)), (q 54, .inl (E.2.1 0, 7, .inl a_bestGiven)), (q 53, .inl (E.2.1 0, 7, .inl a_given))]) [0, 1, 2, 3, 4] rfl
        have hDl := hD.sub (ws' := [(h0, .inr (12, mG q i_taped i_size i_sort i_what i_at i_end i_worth i_faultKind i_faultPlace i_got i_worked (nI dl) i_isPlanned i_bestDone i_bestCost)), (q 51, .inl (E.2.1 0, 512, .inl a_least)), (q 55, .inl (E.2.1 0, 4, .inl a_sets)), (q 54, .inl (E.2.1 0, 7, .inl a_bestGiven)), (q 53, .inl (E.2.1 0, 7, .inl a_given))]) [0, 1, 2, 3, 4] (by decide) rfl
        refine lm_bits E h0 q i_taped i_size i_sort i_what i_at i_end i_worth i_faultKind i_faultPlace i_got i_worked i_isPlanned i_bestDone i_bestCost dl x_159 1 ([(q 51, .inl (E.2.1 0, 512, .inl a_least)), (q 55, .inl (E.2.1 0, 4, .inl a_sets)), (q 54, .inl (E.2.1 0, 7, .inl a_bestGiven)), (q 53, .inl (E.2.1 0, 7, .inl a_given))]) hx hb hml hown hts hkn hst hA  (fun n_161 H locs ls  hP hD hS hl => ?_) (w_148 + 1) w_148 n_144 _ _ _ (Nat.lt_succ_self _) hPl hDl hS (lv_sub hl [3, 4, 1, 2, 0] rfl)
        have hP : va_P E.1 vwCl [(h0, .inr (12, mG q i_taped i_size i_sort i_what i_at i_end i_worth i_faultKind i_faultPlace i_got i_worked (nI dl) i_isPlanned i_bestDone i_bestCost)), (q 51, .inl (E.2.1 0, 512, .inl a_least)), (q 55, .inl (E.2.1 0, 4, .inl a_sets)), (q 54, .inl (E.2.1 0, 7, .inl a_bestGiven)), (q 53, .inl (E.2.1 0, 7, .inl a_given))] H := hP
        have hD : va_D A [(h0, .inr (12, mG q i_taped i_size i_sort i_what i_at i_end i_worth i_faultKind i_faultPlace i_got i_worked (nI dl) i_isPlanned i_bestDone i_bestCost)), (q 51, .inl (E.2.1 0, 512, .inl a_least)), (q 55, .inl (E.2.1 0, 4, .inl a_sets)), (q 54, .inl (E.2.1 0, 7, .inl a_bestGiven)), (q 53, .inl (E.2.1 0, 7, .inl a_given))] := hD
        refine lv_iinc (v := 2) (lv' := [(4, .int 2), (0, .ref h0), (2, .int n_161), (3, .int x_159)]) hx hb dX12_give_96 hl (k := 3) rfl (by decide) (by decide) rfl (fun ls hl => ?_)
        refine lv_goto (tgt := 15) hx hb dX12_give_99 (by decide) ?_
        refine lv_iload hx hb dX12_give_15 (lv_at hl 0 rfl) ?_
        refine lv_iconst (v := 4) hx hb dX12_give_17 (by decide) ?_
        refine lv_icmp_ge (tgt := 102) hx hb dX12_give_18 (by decide) (fun c9 => absurd c9 (by decide)) (fun _ => ?_)
        refine lv_aload_n hx hb dX12_give_21 rfl (lv_at hl 1 rfl) ?_
        refine va_get (D := E.1) (ci := 12) (v := .ref (q 51)) (C := RX12) (T := TX12) (N := 59) hx hb hts inX12 hown hK hP 0 rfl rfl 51 (by decide) fl130 (fun _ h9 => h9) rfl dX12_give_22 ?_
        refine lv_sipush (v := 128) hx hb dX12_give_25 (by decide) ?_
        refine lv_iload hx hb dX12_give_28 (lv_at hl 0 rfl) ?_
        refine lv_imul hx hb dX12_give_30 ?_
        refine lv_topi (fun x_162 ex_162 => ?_)
        obtain rfl : x_162 = 256 := ex_162.trans (by decide +kernel)
        refine lv_aload_n hx hb dX12_give_31 rfl (lv_at hl 1 rfl) ?_
        refine va_get (D := E.1) (ci := 12) (v := .ref (q 55)) (C := RX12) (T := TX12) (N := 59) hx hb hts inX12 hown hK hP 0 rfl rfl 55 (by decide) fl142 (fun _ h9 => h9) rfl dX12_give_32 ?_
        refine lv_iload hx hb dX12_give_35 (lv_at hl 0 rfl) ?_
        refine va_iald hx hb hK hP 2 0 rfl rfl (show vp_in 2 4 from by unfold vp_in; decide) dX12_give_37 ?_
        refine lv_topi (fun x_163 ex_163 => ?_)
        have hv_164 : inR x_163 0 127 = true := by rw [ex_163]; exact hI_sets _ (vin_cl (show vp_in 2 4 from by unfold vp_in; decide))
        obtain ⟨w_165, hw_166, ew_167⟩ := inR_nI (n := 127) (by decide) hv_164
        subst ew_167
        refine lv_iadd hx hb dX12_give_38 ?_
        refine lv_topi (fun x_168 ex_168 => ?_)
        obtain rfl : x_168 = nI (256 + w_165) := ex_168.trans (nI_add 256 w_165)
        have hi_169 : vp_in (nI (256 + w_165)) 512 := vp_in_nI (by omega) (by decide)
        refine va_iald hx hb hK hP 1 0 rfl rfl hi_169 dX12_give_39 ?_
        refine lv_topi (fun x_170 ex_170 => ?_)
        refine lv_iconst (v := (-1)) hx hb dX12_give_40 (by decide) ?_
        refine lv_icmp_ne (tgt := 45) hx hb dX12_give_41 (by decide) (fun c_171 => ?_) (fun c_171 => ?_)
        · refine lv_iload_n hx hb dX12_give_45 rfl (lv_at hl 3 rfl) ?_
          refine lv_aload_n hx hb dX12_give_46 rfl (lv_at hl 1 rfl) ?_
          refine va_get (D := E.1) (ci := 12) (v := .ref (q 51)) (C := RX12) (T := TX12) (N := 59) hx hb hts inX12 hown hK hP 0 rfl rfl 51 (by decide) fl130 (fun _ h9 => h9) rfl dX12_give_47 ?_
          refine lv_sipush (v := 128) hx hb dX12_give_50 (by decide) ?_
          refine lv_iload hx hb dX12_give_53 (lv_at hl 0 rfl) ?_
          refine lv_imul hx hb dX12_give_55 ?_
          refine lv_topi (fun x_172 ex_172 => ?_)
          obtain rfl : x_172 = 256 := ex_172.trans (by decide +kernel)
          refine lv_aload_n hx hb dX12_give_56 rfl (lv_at hl 1 rfl) ?_
          refine va_get (D := E.1) (ci := 12) (v := .ref (q 55)) (C := RX12) (T := TX12) (N := 59) hx hb hts inX12 hown hK hP 0 rfl rfl 55 (by decide) fl142 (fun _ h9 => h9) rfl dX12_give_57 ?_
          refine lv_iload hx hb dX12_give_60 (lv_at hl 0 rfl) ?_
          refine va_iald hx hb hK hP 2 0 rfl rfl (show vp_in 2 4 from by unfold vp_in; decide) dX12_give_62 ?_
          refine lv_topi (fun x_173 ex_173 => ?_)
          obtain rfl : x_173 = nI w_165 := ex_173.trans ex_163.symm
          refine lv_iadd hx hb dX12_give_63 ?_
          refine lv_topi (fun x_174 ex_174 => ?_)
          obtain rfl : x_174 = nI (256 + w_165) := ex_174.trans (nI_add 256 w_165)
          refine va_iald hx hb hK hP 1 0 rfl rfl hi_169 dX12_give_64 ?_
          refine lv_topi (fun x_175 ex_175 => ?_)
          refine lv_iadd hx hb dX12_give_65 ?_
          refine lv_topi (fun x_176 ex_176 => ?_)
          refine lv_istore_n (lv' := [(3, .int x_176), (4, .int 2), (0, .ref h0), (2, .int n_161)]) hx hb dX12_give_66 rfl hl (by decide) rfl (fun ls hl => ?_)
          refine lv_aload_n hx hb dX12_give_67 rfl (lv_at hl 2 rfl) ?_
          refine va_get (D := E.1) (ci := 12) (v := .ref (q 55)) (C := RX12) (T := TX12) (N := 59) hx hb hts inX12 hown hK hP 0 rfl rfl 55 (by decide) fl142 (fun _ h9 => h9) rfl dX12_give_68 ?_
          refine lv_iload hx hb dX12_give_71 (lv_at hl 1 rfl) ?_
          refine va_iald hx hb hK hP 2 0 rfl rfl (show vp_in 2 4 from by unfold vp_in; decide) dX12_give_73 ?_
          refine lv_topi (fun x_177 ex_177 => ?_)
          obtain rfl : x_177 = nI w_165 := ex_177.trans ex_163.symm
          refine lv_istore (lv' := [(5, .int (nI w_165)), (3, .int x_176), (4, .int 2), (0, .ref h0), (2, .int n_161)]) hx hb dX12_give_74 hl (by decide) rfl (fun ls hl => ?_)
          have hPl := hP.sub (ws' := [(h0, .inr (12, mG q i_taped i_size i_sort i_what i_at i_end i_worth i_faultKind i_faultPlace i_got i_worked (nI dl) i_isPlanned i_bestDone i_bestCost)), (q 51, .inl (E.2.1 0, 512, .inl a_least)), (q 55, .inl (E.2.1 0, 4, .inl a_sets)), (q 54, .inl (E.2.1 0, 7, .inl a_bestGiven)), (q 53, .inl (E.2.1 0, 7, .inl a_given))]) [0, 1, 2, 3, 4] rfl
          have hDl := hD.sub (ws' := [(h0, .inr (12, mG q i_taped i_size i_sort i_what i_at i_end i_worth i_faultKind i_faultPlace i_got i_worked (nI dl) i_isPlanned i_bestDone i_bestCost)), (q 51, .inl (E.2.1 0, 512, .inl a_least)), (q 55, .inl (E.2.1 0, 4, .inl a_sets)), (q 54, .inl (E.2.1 0, 7, .inl a_bestGiven)), (q 53, .inl (E.2.1 0, 7, .inl a_given))]) [0, 1, 2, 3, 4] (by decide) rfl
          refine lm_bits E h0 q i_taped i_size i_sort i_what i_at i_end i_worth i_faultKind i_faultPlace i_got i_worked i_isPlanned i_bestDone i_bestCost dl x_176 2 ([(q 51, .inl (E.2.1 0, 512, .inl a_least)), (q 55, .inl (E.2.1 0, 4, .inl a_sets)), (q 54, .inl (E.2.1 0, 7, .inl a_bestGiven)), (q 53, .inl (E.2.1 0, 7, .inl a_given))]) hx hb hml hown hts hkn hst hA  (fun n_178 H locs ls  hP hD hS hl => ?_) (w_165 + 1) w_165 n_161 _ _ _ (Nat.lt_succ_self _) hPl hDl hS (lv_sub hl [3, 4, 1, 2, 0] rfl)
          have hP : va_P E.1 vwCl [(h0, .inr (12, mG q i_taped i_size i_sort i_what i_at i_end i_worth i_faultKind i_faultPlace i_got i_worked (nI dl) i_isPlanned i_bestDone i_bestCost)), (q 51, .inl (E.2.1 0, 512, .inl a_least)), (q 55, .inl (E.2.1 0, 4, .inl a_sets)), (q 54, .inl (E.2.1 0, 7, .inl a_bestGiven)), (q 53, .inl (E.2.1 0, 7, .inl a_given))] H := hP
          have hD : va_D A [(h0, .inr (12, mG q i_taped i_size i_sort i_what i_at i_end i_worth i_faultKind i_faultPlace i_got i_worked (nI dl) i_isPlanned i_bestDone i_bestCost)), (q 51, .inl (E.2.1 0, 512, .inl a_least)), (q 55, .inl (E.2.1 0, 4, .inl a_sets)), (q 54, .inl (E.2.1 0, 7, .inl a_bestGiven)), (q 53, .inl (E.2.1 0, 7, .inl a_given))] := hD
          refine lv_iinc (v := 3) (lv' := [(4, .int 3), (0, .ref h0), (2, .int n_178), (3, .int x_176)]) hx hb dX12_give_96 hl (k := 3) rfl (by decide) (by decide) rfl (fun ls hl => ?_)
          refine lv_goto (tgt := 15) hx hb dX12_give_99 (by decide) ?_
          refine lv_iload hx hb dX12_give_15 (lv_at hl 0 rfl) ?_
          refine lv_iconst (v := 4) hx hb dX12_give_17 (by decide) ?_
          refine lv_icmp_ge (tgt := 102) hx hb dX12_give_18 (by decide) (fun c9 => absurd c9 (by decide)) (fun _ => ?_)
          refine lv_aload_n hx hb dX12_give_21 rfl (lv_at hl 1 rfl) ?_
          refine va_get (D := E.1) (ci := 12) (v := .ref (q 51)) (C := RX12) (T := TX12) (N := 59) hx hb hts inX12 hown hK hP 0 rfl rfl 51 (by decide) fl130 (fun _ h9 => h9) rfl dX12_give_22 ?_
          refine lv_sipush (v := 128) hx hb dX12_give_25 (by decide) ?_
          refine lv_iload hx hb dX12_give_28 (lv_at hl 0 rfl) ?_
          refine lv_imul hx hb dX12_give_30 ?_
          refine lv_topi (fun x_179 ex_179 => ?_)
          obtain rfl : x_179 = 384 := ex_179.trans (by decide +kernel)
          refine lv_aload_n hx hb dX12_give_31 rfl (lv_at hl 1 rfl) ?_
          refine va_get (D := E.1) (ci := 12) (v := .ref (q 55)) (C := RX12) (T := TX12) (N := 59) hx hb hts inX12 hown hK hP 0 rfl rfl 55 (by decide) fl142 (fun _ h9 => h9) rfl dX12_give_32 ?_
          refine lv_iload hx hb dX12_give_35 (lv_at hl 0 rfl) ?_
          refine va_iald hx hb hK hP 2 0 rfl rfl (show vp_in 3 4 from by unfold vp_in; decide) dX12_give_37 ?_
          refine lv_topi (fun x_180 ex_180 => ?_)
          have hv_181 : inR x_180 0 127 = true := by rw [ex_180]; exact hI_sets _ (vin_cl (show vp_in 3 4 from by unfold vp_in; decide))
          obtain ⟨w_182, hw_183, ew_184⟩ := inR_nI (n := 127) (by decide) hv_181
          subst ew_184
          refine lv_iadd hx hb dX12_give_38 ?_
          refine lv_topi (fun x_185 ex_185 => ?_)
          obtain rfl : x_185 = nI (384 + w_182) := ex_185.trans (nI_add 384 w_182)
          have hi_186 : vp_in (nI (384 + w_182)) 512 := vp_in_nI (by omega) (by decide)
          refine va_iald hx hb hK hP 1 0 rfl rfl hi_186 dX12_give_39 ?_
          refine lv_topi (fun x_187 ex_187 => ?_)
          refine lv_iconst (v := (-1)) hx hb dX12_give_40 (by decide) ?_
          refine lv_icmp_ne (tgt := 45) hx hb dX12_give_41 (by decide) (fun c_188 => ?_) (fun c_188 => ?_)
          · refine lv_iload_n hx hb dX12_give_45 rfl (lv_at hl 3 rfl) ?_
            refine lv_aload_n hx hb dX12_give_46 rfl (lv_at hl 1 rfl) ?_
            refine va_get (D := E.1) (ci := 12) (v := .ref (q 51)) (C := RX12) (T := TX12) (N := 59) hx hb hts inX12 hown hK hP 0 rfl rfl 51 (by decide) fl130 (fun _ h9 => h9) rfl dX12_give_47 ?_
            refine lv_sipush (v := 128) hx hb dX12_give_50 (by decide) ?_
            refine lv_iload hx hb dX12_give_53 (lv_at hl 0 rfl) ?_
            refine lv_imul hx hb dX12_give_55 ?_
            refine lv_topi (fun x_189 ex_189 => ?_)
            obtain rfl : x_189 = 384 := ex_189.trans (by decide +kernel)
            refine lv_aload_n hx hb dX12_give_56 rfl (lv_at hl 1 rfl) ?_
            refine va_get (D := E.1) (ci := 12) (v := .ref (q 55)) (C := RX12) (T := TX12) (N := 59) hx hb hts inX12 hown hK hP 0 rfl rfl 55 (by decide) fl142 (fun _ h9 => h9) rfl dX12_give_57 ?_
            refine lv_iload hx hb dX12_give_60 (lv_at hl 0 rfl) ?_
            refine va_iald hx hb hK hP 2 0 rfl rfl (show vp_in 3 4 from by unfold vp_in; decide) dX12_give_62 ?_
            refine lv_topi (fun x_190 ex_190 => ?_)
            obtain rfl : x_190 = nI w_182 := ex_190.trans ex_180.symm
            refine lv_iadd hx hb dX12_give_63 ?_
            refine lv_topi (fun x_191 ex_191 => ?_)
            obtain rfl : x_191 = nI (384 + w_182) := ex_191.trans (nI_add 384 w_182)
            refine va_iald hx hb hK hP 1 0 rfl rfl hi_186 dX12_give_64 ?_
            refine lv_topi (fun x_192 ex_192 => ?_)
            refine lv_iadd hx hb dX12_give_65 ?_
            refine lv_topi (fun x_193 ex_193 => ?_)
            refine lv_istore_n (lv' := [(3, .int x_193), (4, .int 3), (0, .ref h0), (2, .int n_178)]) hx hb dX12_give_66 rfl hl (by decide) rfl (fun ls hl => ?_)
            refine lv_aload_n hx hb dX12_give_67 rfl (lv_at hl 2 rfl) ?_
            refine va_get (D := E.1) (ci := 12) (v := .ref (q 55)) (C := RX12) (T := TX12) (N := 59) hx hb hts inX12 hown hK hP 0 rfl rfl 55 (by decide) fl142 (fun _ h9 => h9) rfl dX12_give_68 ?_
            refine lv_iload hx hb dX12_give_71 (lv_at hl 1 rfl) ?_
            refine va_iald hx hb hK hP 2 0 rfl rfl (show vp_in 3 4 from by unfold vp_in; decide) dX12_give_73 ?_
            refine lv_topi (fun x_194 ex_194 => ?_)
            obtain rfl : x_194 = nI w_182 := ex_194.trans ex_180.symm
            refine lv_istore (lv' := [(5, .int (nI w_182)), (3, .int x_193), (4, .int 3), (0, .ref h0), (2, .int n_178)]) hx hb dX12_give_74 hl (by decide) rfl (fun ls hl => ?_)
            have hPl := hP.sub (ws' := [(h0, .inr (12, mG q i_taped i_size i_sort i_what i_at i_end i_worth i_faultKind i_faultPlace i_got i_worked (nI dl) i_isPlanned i_bestDone i_bestCost)), (q 51, .inl (E.2.1 0, 512, .inl a_least)), (q 55, .inl (E.2.1 0, 4, .inl a_sets)), (q 54, .inl (E.2.1 0, 7, .inl a_bestGiven)), (q 53, .inl (E.2.1 0, 7, .inl a_given))]) [0, 1, 2, 3, 4] rfl
            have hDl := hD.sub (ws' := [(h0, .inr (12, mG q i_taped i_size i_sort i_what i_at i_end i_worth i_faultKind i_faultPlace i_got i_worked (nI dl) i_isPlanned i_bestDone i_bestCost)), (q 51, .inl (E.2.1 0, 512, .inl a_least)), (q 55, .inl (E.2.1 0, 4, .inl a_sets)), (q 54, .inl (E.2.1 0, 7, .inl a_bestGiven)), (q 53, .inl (E.2.1 0, 7, .inl a_given))]) [0, 1, 2, 3, 4] (by decide) rfl
            refine lm_bits E h0 q i_taped i_size i_sort i_what i_at i_end i_worth i_faultKind i_faultPlace i_got i_worked i_isPlanned i_bestDone i_bestCost dl x_193 3 ([(q 51, .inl (E.2.1 0, 512, .inl a_least)), (q 55, .inl (E.2.1 0, 4, .inl a_sets)), (q 54, .inl (E.2.1 0, 7, .inl a_bestGiven)), (q 53, .inl (E.2.1 0, 7, .inl a_given))]) hx hb hml hown hts hkn hst hA  (fun n_195 H locs ls  hP hD hS hl => ?_) (w_182 + 1) w_182 n_178 _ _ _ (Nat.lt_succ_self _) hPl hDl hS (lv_sub hl [3, 4, 1, 2, 0] rfl)
            have hP : va_P E.1 vwCl [(h0, .inr (12, mG q i_taped i_size i_sort i_what i_at i_end i_worth i_faultKind i_faultPlace i_got i_worked (nI dl) i_isPlanned i_bestDone i_bestCost)), (q 51, .inl (E.2.1 0, 512, .inl a_least)), (q 55, .inl (E.2.1 0, 4, .inl a_sets)), (q 54, .inl (E.2.1 0, 7, .inl a_bestGiven)), (q 53, .inl (E.2.1 0, 7, .inl a_given))] H := hP
            have hD : va_D A [(h0, .inr (12, mG q i_taped i_size i_sort i_what i_at i_end i_worth i_faultKind i_faultPlace i_got i_worked (nI dl) i_isPlanned i_bestDone i_bestCost)), (q 51, .inl (E.2.1 0, 512, .inl a_least)), (q 55, .inl (E.2.1 0, 4, .inl a_sets)), (q 54, .inl (E.2.1 0, 7, .inl a_bestGiven)), (q 53, .inl (E.2.1 0, 7, .inl a_given))] := hD
            refine lv_iinc (v := 4) (lv' := [(4, .int 4), (0, .ref h0), (2, .int n_195), (3, .int x_193)]) hx hb dX12_give_96 hl (k := 3) rfl (by decide) (by decide) rfl (fun ls hl => ?_)
            refine lv_goto (tgt := 15) hx hb dX12_give_99 (by decide) ?_
            refine lv_iload hx hb dX12_give_15 (lv_at hl 0 rfl) ?_
            refine lv_iconst (v := 4) hx hb dX12_give_17 (by decide) ?_
            refine lv_icmp_ge (tgt := 102) hx hb dX12_give_18 (by decide) (fun _ => ?_) (fun c9 => absurd c9 (by decide))
            refine lv_iload_n hx hb dX12_give_102 rfl (lv_at hl 2 rfl) ?_
            refine lv_aload_n hx hb dX12_give_103 rfl (lv_at hl 1 rfl) ?_
            refine va_get (D := E.1) (ci := 12) (v := .int i_bestDone) (C := RX12) (T := TX12) (N := 59) hx hb hts inX12 hown hK hP 0 rfl rfl 57 (by decide) fl300 (fun _ h9 => h9) rfl dX12_give_104 ?_
            refine lv_icmp_lt (tgt := 126) hx hb dX12_give_107 (by decide) (fun c_196 => ?_) (fun c_196 => ?_)
            · have hP9 := hP.sub (ws' := [(h0, .inr (12, mG q i_taped i_size i_sort i_what i_at i_end i_worth i_faultKind i_faultPlace i_got i_worked (nI dl) i_isPlanned i_bestDone i_bestCost)), (q 51, .inl (E.2.1 0, 512, .inl a_least)), (q 55, .inl (E.2.1 0, 4, .inl a_sets)), (q 54, .inl (E.2.1 0, 7, .inl a_bestGiven)), (q 53, .inl (E.2.1 0, 7, .inl a_given))]) [0, 1, 2, 3, 4] rfl
              have hD9 := hD.sub (ws' := [(h0, .inr (12, mG q i_taped i_size i_sort i_what i_at i_end i_worth i_faultKind i_faultPlace i_got i_worked (nI dl) i_isPlanned i_bestDone i_bestCost)), (q 51, .inl (E.2.1 0, 512, .inl a_least)), (q 55, .inl (E.2.1 0, 4, .inl a_sets)), (q 54, .inl (E.2.1 0, 7, .inl a_bestGiven)), (q 53, .inl (E.2.1 0, 7, .inl a_given))]) [0, 1, 2, 3, 4] (by decide) rfl
              exact W.vret hx hb hr (fun t ht hW => ⟨⟨(i_bestDone, i_bestCost, a_sets, a_bestGiven, a_given), rfl, trivial, hI_sets, by rw [ht]; exact hP9, hD9⟩, hS.F ht⟩) hS.2.2 dX12_give_126
            · refine lv_iload_n hx hb dX12_give_110 rfl (lv_at hl 2 rfl) ?_
              refine lv_aload_n hx hb dX12_give_111 rfl (lv_at hl 1 rfl) ?_
              refine va_get (D := E.1) (ci := 12) (v := .int i_bestDone) (C := RX12) (T := TX12) (N := 59) hx hb hts inX12 hown hK hP 0 rfl rfl 57 (by decide) fl300 (fun _ h9 => h9) rfl dX12_give_112 ?_
              refine lv_icmp_ne (tgt := 127) hx hb dX12_give_115 (by decide) (fun c_197 => ?_) (fun c_197 => ?_)
              · refine lv_aload_n hx hb dX12_give_127 rfl (lv_at hl 1 rfl) ?_
                refine lv_iload_n hx hb dX12_give_128 rfl (lv_at hl 2 rfl) ?_
                refine va_put (D := E.1) (ci := 12) (v := .int n_195) (ty := .int) (C := RX12) (T := TX12) (N := 59) hx hb hts inX12 tyX12 tyX12_ok nmX12 hown hK hP hD hS 0 rfl rfl 57 (by decide) fl300 (fun _ h9 => h9) rfl (by decide +kernel) rfl rfl (Nat.le_of_ble_eq_true rfl) dX12_give_129 (fun H locs hP hD hS => ?_)
                have hP : va_P E.1 vwCl [(h0, .inr (12, mG q i_taped i_size i_sort i_what i_at i_end i_worth i_faultKind i_faultPlace i_got i_worked (nI dl) i_isPlanned n_195 i_bestCost)), (q 51, .inl (E.2.1 0, 512, .inl a_least)), (q 55, .inl (E.2.1 0, 4, .inl a_sets)), (q 54, .inl (E.2.1 0, 7, .inl a_bestGiven)), (q 53, .inl (E.2.1 0, 7, .inl a_given))] H := hP
                have hD : va_D A [(h0, .inr (12, mG q i_taped i_size i_sort i_what i_at i_end i_worth i_faultKind i_faultPlace i_got i_worked (nI dl) i_isPlanned n_195 i_bestCost)), (q 51, .inl (E.2.1 0, 512, .inl a_least)), (q 55, .inl (E.2.1 0, 4, .inl a_sets)), (q 54, .inl (E.2.1 0, 7, .inl a_bestGiven)), (q 53, .inl (E.2.1 0, 7, .inl a_given))] := hD
                refine lv_aload_n hx hb dX12_give_132 rfl (lv_at hl 1 rfl) ?_
                refine lv_iload_n hx hb dX12_give_133 rfl (lv_at hl 3 rfl) ?_
                refine va_put (D := E.1) (ci := 12) (v := .int x_193) (ty := .int) (C := RX12) (T := TX12) (N := 59) hx hb hts inX12 tyX12 tyX12_ok nmX12 hown hK hP hD hS 0 rfl rfl 58 (by decide) fl303 (fun _ h9 => h9) rfl (by decide +kernel) rfl rfl (Nat.le_of_ble_eq_true rfl) dX12_give_134 (fun H locs hP hD hS => ?_)
                have hP : va_P E.1 vwCl [(h0, .inr (12, mG q i_taped i_size i_sort i_what i_at i_end i_worth i_faultKind i_faultPlace i_got i_worked (nI dl) i_isPlanned n_195 x_193)), (q 51, .inl (E.2.1 0, 512, .inl a_least)), (q 55, .inl (E.2.1 0, 4, .inl a_sets)), (q 54, .inl (E.2.1 0, 7, .inl a_bestGiven)), (q 53, .inl (E.2.1 0, 7, .inl a_given))] H := hP
                have hD : va_D A [(h0, .inr (12, mG q i_taped i_size i_sort i_what i_at i_end i_worth i_faultKind i_faultPlace i_got i_worked (nI dl) i_isPlanned n_195 x_193)), (q 51, .inl (E.2.1 0, 512, .inl a_least)), (q 55, .inl (E.2.1 0, 4, .inl a_sets)), (q 54, .inl (E.2.1 0, 7, .inl a_bestGiven)), (q 53, .inl (E.2.1 0, 7, .inl a_given))] := hD
                refine lv_iconst (v := 0) hx hb dX12_give_137 (by decide) ?_
                refine lv_istore (lv' := [(4, .int 0), (0, .ref h0), (2, .int n_195), (3, .int x_193)]) hx hb dX12_give_138 hl (by decide) rfl (fun ls hl => ?_)
                have hPl := hP.sub (ws' := [(h0, .inr (12, mG q i_taped i_size i_sort i_what i_at i_end i_worth i_faultKind i_faultPlace i_got i_worked (nI dl) i_isPlanned n_195 x_193)), (q 53, .inl (E.2.1 0, 7, .inl a_given)), (q 54, .inl (E.2.1 0, 7, .inl a_bestGiven)), (q 51, .inl (E.2.1 0, 512, .inl a_least)), (q 55, .inl (E.2.1 0, 4, .inl a_sets))]) [0, 4, 3, 1, 2] rfl
                have hDl := hD.sub (ws' := [(h0, .inr (12, mG q i_taped i_size i_sort i_what i_at i_end i_worth i_faultKind i_faultPlace i_got i_worked (nI dl) i_isPlanned n_195 x_193)), (q 53, .inl (E.2.1 0, 7, .inl a_given)), (q 54, .inl (E.2.1 0, 7, .inl a_bestGiven)), (q 51, .inl (E.2.1 0, 512, .inl a_least)), (q 55, .inl (E.2.1 0, 4, .inl a_sets))]) [0, 4, 3, 1, 2] (by decide) rfl
                refine lm_copy E h0 q i_taped i_size i_sort i_what i_at i_end i_worth i_faultKind i_faultPlace i_got i_worked i_isPlanned n_195 x_193 dl a_given ([(q 51, .inl (E.2.1 0, 512, .inl a_least)), (q 55, .inl (E.2.1 0, 4, .inl a_sets))]) hx hb hml hown hts hkn hst hA (by omega) (fun n_198 H locs ls  hP hD hS hl => ?_) 9 0 a_bestGiven _ _ _ (by omega) (by omega) hPl hDl hS (lv_sub hl [1, 0] rfl)
                have hP : va_P E.1 vwCl [(h0, .inr (12, mG q i_taped i_size i_sort i_what i_at i_end i_worth i_faultKind i_faultPlace i_got i_worked (nI dl) i_isPlanned n_195 x_193)), (q 53, .inl (E.2.1 0, 7, .inl a_given)), (q 54, .inl (E.2.1 0, 7, .inl n_198)), (q 51, .inl (E.2.1 0, 512, .inl a_least)), (q 55, .inl (E.2.1 0, 4, .inl a_sets))] H := hP
                have hD : va_D A [(h0, .inr (12, mG q i_taped i_size i_sort i_what i_at i_end i_worth i_faultKind i_faultPlace i_got i_worked (nI dl) i_isPlanned n_195 x_193)), (q 53, .inl (E.2.1 0, 7, .inl a_given)), (q 54, .inl (E.2.1 0, 7, .inl n_198)), (q 51, .inl (E.2.1 0, 512, .inl a_least)), (q 55, .inl (E.2.1 0, 4, .inl a_sets))] := hD
                have hP9 := hP.sub (ws' := [(h0, .inr (12, mG q i_taped i_size i_sort i_what i_at i_end i_worth i_faultKind i_faultPlace i_got i_worked (nI dl) i_isPlanned n_195 x_193)), (q 51, .inl (E.2.1 0, 512, .inl a_least)), (q 55, .inl (E.2.1 0, 4, .inl a_sets)), (q 54, .inl (E.2.1 0, 7, .inl n_198)), (q 53, .inl (E.2.1 0, 7, .inl a_given))]) [0, 3, 4, 2, 1] rfl
                have hD9 := hD.sub (ws' := [(h0, .inr (12, mG q i_taped i_size i_sort i_what i_at i_end i_worth i_faultKind i_faultPlace i_got i_worked (nI dl) i_isPlanned n_195 x_193)), (q 51, .inl (E.2.1 0, 512, .inl a_least)), (q 55, .inl (E.2.1 0, 4, .inl a_sets)), (q 54, .inl (E.2.1 0, 7, .inl n_198)), (q 53, .inl (E.2.1 0, 7, .inl a_given))]) [0, 3, 4, 2, 1] (by decide) rfl
                exact W.vret hx hb hr (fun t ht hW => ⟨⟨(n_195, x_193, a_sets, n_198, a_given), rfl, trivial, hI_sets, by rw [ht]; exact hP9, hD9⟩, hS.F ht⟩) hS.2.2 dX12_give_169
              · refine lv_iload_n hx hb dX12_give_118 rfl (lv_at hl 3 rfl) ?_
                refine lv_aload_n hx hb dX12_give_119 rfl (lv_at hl 1 rfl) ?_
                refine va_get (D := E.1) (ci := 12) (v := .int i_bestCost) (C := RX12) (T := TX12) (N := 59) hx hb hts inX12 hown hK hP 0 rfl rfl 58 (by decide) fl303 (fun _ h9 => h9) rfl dX12_give_120 ?_
                refine lv_icmp_lt (tgt := 127) hx hb dX12_give_123 (by decide) (fun c_199 => ?_) (fun c_199 => ?_)
                · refine lv_aload_n hx hb dX12_give_127 rfl (lv_at hl 1 rfl) ?_
                  refine lv_iload_n hx hb dX12_give_128 rfl (lv_at hl 2 rfl) ?_
                  refine va_put (D := E.1) (ci := 12) (v := .int n_195) (ty := .int) (C := RX12) (T := TX12) (N := 59) hx hb hts inX12 tyX12 tyX12_ok nmX12 hown hK hP hD hS 0 rfl rfl 57 (by decide) fl300 (fun _ h9 => h9) rfl (by decide +kernel) rfl rfl (Nat.le_of_ble_eq_true rfl) dX12_give_129 (fun H locs hP hD hS => ?_)
                  have hP : va_P E.1 vwCl [(h0, .inr (12, mG q i_taped i_size i_sort i_what i_at i_end i_worth i_faultKind i_faultPlace i_got i_worked (nI dl) i_isPlanned n_195 i_bestCost)), (q 51, .inl (E.2.1 0, 512, .inl a_least)), (q 55, .inl (E.2.1 0, 4, .inl a_sets)), (q 54, .inl (E.2.1 0, 7, .inl a_bestGiven)), (q 53, .inl (E.2.1 0, 7, .inl a_given))] H := hP
                  have hD : va_D A [(h0, .inr (12, mG q i_taped i_size i_sort i_what i_at i_end i_worth i_faultKind i_faultPlace i_got i_worked (nI dl) i_isPlanned n_195 i_bestCost)), (q 51, .inl (E.2.1 0, 512, .inl a_least)), (q 55, .inl (E.2.1 0, 4, .inl a_sets)), (q 54, .inl (E.2.1 0, 7, .inl a_bestGiven)), (q 53, .inl (E.2.1 0, 7, .inl a_given))] := hD
                  refine lv_aload_n hx hb dX12_give_132 rfl (lv_at hl 1 rfl) ?_
                  refine lv_iload_n hx hb dX12_give_133 rfl (lv_at hl 3 rfl) ?_
                  refine va_put (D := E.1) (ci := 12) (v := .int x_193) (ty := .int) (C := RX12) (T := TX12) (N := 59) hx hb hts inX12 tyX12 tyX12_ok nmX12 hown hK hP hD hS 0 rfl rfl 58 (by decide) fl303 (fun _ h9 => h9) rfl (by decide +kernel) rfl rfl (Nat.le_of_ble_eq_true rfl) dX12_give_134 (fun H locs hP hD hS => ?_)
                  have hP : va_P E.1 vwCl [(h0, .inr (12, mG q i_taped i_size i_sort i_what i_at i_end i_worth i_faultKind i_faultPlace i_got i_worked (nI dl) i_isPlanned n_195 x_193)), (q 51, .inl (E.2.1 0, 512, .inl a_least)), (q 55, .inl (E.2.1 0, 4, .inl a_sets)), (q 54, .inl (E.2.1 0, 7, .inl a_bestGiven)), (q 53, .inl (E.2.1 0, 7, .inl a_given))] H := hP
                  have hD : va_D A [(h0, .inr (12, mG q i_taped i_size i_sort i_what i_at i_end i_worth i_faultKind i_faultPlace i_got i_worked (nI dl) i_isPlanned n_195 x_193)), (q 51, .inl (E.2.1 0, 512, .inl a_least)), (q 55, .inl (E.2.1 0, 4, .inl a_sets)), (q 54, .inl (E.2.1 0, 7, .inl a_bestGiven)), (q 53, .inl (E.2.1 0, 7, .inl a_given))] := hD
                  refine lv_iconst (v := 0) hx hb dX12_give_137 (by decide) ?_
                  refine lv_istore (lv' := [(4, .int 0), (0, .ref h0), (2, .int n_195), (3, .int x_193)]) hx hb dX12_give_138 hl (by decide) rfl (fun ls hl => ?_)
                  have hPl := hP.sub (ws' := [(h0, .inr (12, mG q i_taped i_size i_sort i_what i_at i_end i_worth i_faultKind i_faultPlace i_got i_worked (nI dl) i_isPlanned n_195 x_193)), (q 53, .inl (E.2.1 0, 7, .inl a_given)), (q 54, .inl (E.2.1 0, 7, .inl a_bestGiven)), (q 51, .inl (E.2.1 0, 512, .inl a_least)), (q 55, .inl (E.2.1 0, 4, .inl a_sets))]) [0, 4, 3, 1, 2] rfl
                  have hDl := hD.sub (ws' := [(h0, .inr (12, mG q i_taped i_size i_sort i_what i_at i_end i_worth i_faultKind i_faultPlace i_got i_worked (nI dl) i_isPlanned n_195 x_193)), (q 53, .inl (E.2.1 0, 7, .inl a_given)), (q 54, .inl (E.2.1 0, 7, .inl a_bestGiven)), (q 51, .inl (E.2.1 0, 512, .inl a_least)), (q 55, .inl (E.2.1 0, 4, .inl a_sets))]) [0, 4, 3, 1, 2] (by decide) rfl
                  refine lm_copy E h0 q i_taped i_size i_sort i_what i_at i_end i_worth i_faultKind i_faultPlace i_got i_worked i_isPlanned n_195 x_193 dl a_given ([(q 51, .inl (E.2.1 0, 512, .inl a_least)), (q 55, .inl (E.2.1 0, 4, .inl a_sets))]) hx hb hml hown hts hkn hst hA (by omega) (fun n_200 H locs ls  hP hD hS hl => ?_) 9 0 a_bestGiven _ _ _ (by omega) (by omega) hPl hDl hS (lv_sub hl [1, 0] rfl)
                  have hP : va_P E.1 vwCl [(h0, .inr (12, mG q i_taped i_size i_sort i_what i_at i_end i_worth i_faultKind i_faultPlace i_got i_worked (nI dl) i_isPlanned n_195 x_193)), (q 53, .inl (E.2.1 0, 7, .inl a_given)), (q 54, .inl (E.2.1 0, 7, .inl n_200)), (q 51, .inl (E.2.1 0, 512, .inl a_least)), (q 55, .inl (E.2.1 0, 4, .inl a_sets))] H := hP
                  have hD : va_D A [(h0, .inr (12, mG q i_taped i_size i_sort i_what i_at i_end i_worth i_faultKind i_faultPlace i_got i_worked (nI dl) i_isPlanned n_195 x_193)), (q 53, .inl (E.2.1 0, 7, .inl a_given)), (q 54, .inl (E.2.1 0, 7, .inl n_200)), (q 51, .inl (E.2.1 0, 512, .inl a_least)), (q 55, .inl (E.2.1 0, 4, .inl a_sets))] := hD
                  have hP9 := hP.sub (ws' := [(h0, .inr (12, mG q i_taped i_size i_sort i_what i_at i_end i_worth i_faultKind i_faultPlace i_got i_worked (nI dl) i_isPlanned n_195 x_193)), (q 51, .inl (E.2.1 0, 512, .inl a_least)), (q 55, .inl (E.2.1 0, 4, .inl a_sets)), (q 54, .inl (E.2.1 0, 7, .inl n_200)), (q 53, .inl (E.2.1 0, 7, .inl a_given))]) [0, 3, 4, 2, 1] rfl
                  have hD9 := hD.sub (ws' := [(h0, .inr (12, mG q i_taped i_size i_sort i_what i_at i_end i_worth i_faultKind i_faultPlace i_got i_worked (nI dl) i_isPlanned n_195 x_193)), (q 51, .inl (E.2.1 0, 512, .inl a_least)), (q 55, .inl (E.2.1 0, 4, .inl a_sets)), (q 54, .inl (E.2.1 0, 7, .inl n_200)), (q 53, .inl (E.2.1 0, 7, .inl a_given))]) [0, 3, 4, 2, 1] (by decide) rfl
                  exact W.vret hx hb hr (fun t ht hW => ⟨⟨(n_195, x_193, a_sets, n_200, a_given), rfl, trivial, hI_sets, by rw [ht]; exact hP9, hD9⟩, hS.F ht⟩) hS.2.2 dX12_give_169
                · have hP9 := hP.sub (ws' := [(h0, .inr (12, mG q i_taped i_size i_sort i_what i_at i_end i_worth i_faultKind i_faultPlace i_got i_worked (nI dl) i_isPlanned i_bestDone i_bestCost)), (q 51, .inl (E.2.1 0, 512, .inl a_least)), (q 55, .inl (E.2.1 0, 4, .inl a_sets)), (q 54, .inl (E.2.1 0, 7, .inl a_bestGiven)), (q 53, .inl (E.2.1 0, 7, .inl a_given))]) [0, 1, 2, 3, 4] rfl
                  have hD9 := hD.sub (ws' := [(h0, .inr (12, mG q i_taped i_size i_sort i_what i_at i_end i_worth i_faultKind i_faultPlace i_got i_worked (nI dl) i_isPlanned i_bestDone i_bestCost)), (q 51, .inl (E.2.1 0, 512, .inl a_least)), (q 55, .inl (E.2.1 0, 4, .inl a_sets)), (q 54, .inl (E.2.1 0, 7, .inl a_bestGiven)), (q 53, .inl (E.2.1 0, 7, .inl a_given))]) [0, 1, 2, 3, 4] (by decide) rfl
                  exact W.vret hx hb hr (fun t ht hW => ⟨⟨(i_bestDone, i_bestCost, a_sets, a_bestGiven, a_given), rfl, trivial, hI_sets, by rw [ht]; exact hP9, hD9⟩, hS.F ht⟩) hS.2.2 dX12_give_126
          · have hP9 := hP.sub (ws' := [(h0, .inr (12, mG q i_taped i_size i_sort i_what i_at i_end i_worth i_faultKind i_faultPlace i_got i_worked (nI dl) i_isPlanned i_bestDone i_bestCost)), (q 51, .inl (E.2.1 0, 512, .inl a_least)), (q 55, .inl (E.2.1 0, 4, .inl a_sets)), (q 54, .inl (E.2.1 0, 7, .inl a_bestGiven)), (q 53, .inl (E.2.1 0, 7, .inl a_given))]) [0, 1, 2, 3, 4] rfl
            have hD9 := hD.sub (ws' := [(h0, .inr (12, mG q i_taped i_size i_sort i_what i_at i_end i_worth i_faultKind i_faultPlace i_got i_worked (nI dl) i_isPlanned i_bestDone i_bestCost)), (q 51, .inl (E.2.1 0, 512, .inl a_least)), (q 55, .inl (E.2.1 0, 4, .inl a_sets)), (q 54, .inl (E.2.1 0, 7, .inl a_bestGiven)), (q 53, .inl (E.2.1 0, 7, .inl a_given))]) [0, 1, 2, 3, 4] (by decide) rfl
            exact W.vret hx hb hr (fun t ht hW => ⟨⟨(i_bestDone, i_bestCost, a_sets, a_bestGiven, a_given), rfl, trivial, hI_sets, by rw [ht]; exact hP9, hD9⟩, hS.F ht⟩) hS.2.2 dX12_give_44
        · have hP9 := hP.sub (ws' := [(h0, .inr (12, mG q i_taped i_size i_sort i_what i_at i_end i_worth i_faultKind i_faultPlace i_got i_worked (nI dl) i_isPlanned i_bestDone i_bestCost)), (q 51, .inl (E.2.1 0, 512, .inl a_least)), (q 55, .inl (E.2.1 0, 4, .inl a_sets)), (q 54, .inl (E.2.1 0, 7, .inl a_bestGiven)), (q 53, .inl (E.2.1 0, 7, .inl a_given))]) [0, 1, 2, 3, 4] rfl
          have hD9 := hD.sub (ws' := [(h0, .inr (12, mG q i_taped i_size i_sort i_what i_at i_end i_worth i_faultKind i_faultPlace i_got i_worked (nI dl) i_isPlanned i_bestDone i_bestCost)), (q 51, .inl (E.2.1 0, 512, .inl a_least)), (q 55, .inl (E.2.1 0, 4, .inl a_sets)), (q 54, .inl (E.2.1 0, 7, .inl a_bestGiven)), (q 53, .inl (E.2.1 0, 7, .inl a_given))]) [0, 1, 2, 3, 4] (by decide) rfl
          exact W.vret hx hb hr (fun t ht hW => ⟨⟨(i_bestDone, i_bestCost, a_sets, a_bestGiven, a_given), rfl, trivial, hI_sets, by rw [ht]; exact hP9, hD9⟩, hS.F ht⟩) hS.2.2 dX12_give_44
      · have hP9 := hP.sub (ws' := [(h0, .inr (12, mG q i_taped i_size i_sort i_what i_at i_end i_worth i_faultKind i_faultPlace i_got i_worked (nI dl) i_isPlanned i_bestDone i_bestCost)), (q 51, .inl (E.2.1 0, 512, .inl a_least)), (q 55, .inl (E.2.1 0, 4, .inl a_sets)), (q 54, .inl (E.2.1 0, 7, .inl a_bestGiven)), (q 53, .inl (E.2.1 0, 7, .inl a_given))]) [0, 1, 2, 3, 4] rfl
        have hD9 := hD.sub (ws' := [(h0, .inr (12, mG q i_taped i_size i_sort i_what i_at i_end i_worth i_faultKind i_faultPlace i_got i_worked (nI dl) i_isPlanned i_bestDone i_bestCost)), (q 51, .inl (E.2.1 0, 512, .inl a_least)), (q 55, .inl (E.2.1 0, 4, .inl a_sets)), (q 54, .inl (E.2.1 0, 7, .inl a_bestGiven)), (q 53, .inl (E.2.1 0, 7, .inl a_given))]) [0, 1, 2, 3, 4] (by decide) rfl
        exact W.vret hx hb hr (fun t ht hW => ⟨⟨(i_bestDone, i_bestCost, a_sets, a_bestGiven, a_given), rfl, trivial, hI_sets, by rw [ht]; exact hP9, hD9⟩, hS.F ht⟩) hS.2.2 dX12_give_44
    · have hP9 := hP.sub (ws' := [(h0, .inr (12, mG q i_taped i_size i_sort i_what i_at i_end i_worth i_faultKind i_faultPlace i_got i_worked (nI dl) i_isPlanned i_bestDone i_bestCost)), (q 51, .inl (E.2.1 0, 512, .inl a_least)), (q 55, .inl (E.2.1 0, 4, .inl a_sets)), (q 54, .inl (E.2.1 0, 7, .inl a_bestGiven)), (q 53, .inl (E.2.1 0, 7, .inl a_given))]) [0, 1, 2, 3, 4] rfl
      have hD9 := hD.sub (ws' := [(h0, .inr (12, mG q i_taped i_size i_sort i_what i_at i_end i_worth i_faultKind i_faultPlace i_got i_worked (nI dl) i_isPlanned i_bestDone i_bestCost)), (q 51, .inl (E.2.1 0, 512, .inl a_least)), (q 55, .inl (E.2.1 0, 4, .inl a_sets)), (q 54, .inl (E.2.1 0, 7, .inl a_bestGiven)), (q 53, .inl (E.2.1 0, 7, .inl a_given))]) [0, 1, 2, 3, 4] (by decide) rfl
      exact W.vret hx hb hr (fun t ht hW => ⟨⟨(i_bestDone, i_bestCost, a_sets, a_bestGiven, a_given), rfl, trivial, hI_sets, by rw [ht]; exact hP9, hD9⟩, hS.F ht⟩) hS.2.2 dX12_give_44
set_option maxHeartbeats 4000000 in
set_option maxRecDepth 100000 in
theorem c_X12_give2 (l : Launch) (E : vE) (h0 : Nat) (q : Nat → Nat) (i_taped : Int32) (i_size : Int32) (i_sort : Int32) (i_what : Int32) (i_at : Int32) (i_end : Int32) (i_worth : Int32) (i_faultKind : Int32) (i_faultPlace : Int32) (i_got : Int32) (i_worked : Int32) (i_isPlanned : Int32) (i_bestDone : Int32) (i_bestCost : Int32) (dl : Nat) (a_least : Nat → Int32) (a_sets : Nat → Int32) (a_bestGiven : Nat → Int32) (a_given : Nat → Int32) (sz : Nat) (hdl : dl ≤ 7) (hd : 2 ≤ dl) (hI_sets : ∀ k : Nat, k < 4 → inR (a_sets k) 0 127 = true) : Met l yX12_give wsX12_give ({ frames := 5, cells := 0, slots := 0, locals := 125 }) (pcW E [.ref h0, .int 2] sz [(h0, .inr (12, mG q i_taped i_size i_sort i_what i_at i_end i_worth i_faultKind i_faultPlace i_got i_worked (nI dl) i_isPlanned i_bestDone i_bestCost)), (q 51, .inl (E.2.1 0, 512, .inl a_least)), (q 55, .inl (E.2.1 0, 4, .inl a_sets)), (q 54, .inl (E.2.1 0, 7, .inl a_bestGiven)), (q 53, .inl (E.2.1 0, 7, .inl a_given))]) (va_Qv (fun (u : Int32 × Int32 × (Nat → Int32) × (Nat → Int32) × (Nat → Int32)) => match u with | (bd2, bc2, b_sets, b_bestGiven, b_given) => True) (fun (u : Int32 × Int32 × (Nat → Int32) × (Nat → Int32) × (Nat → Int32)) (t : State) => match u with | (bd2, bc2, b_sets, b_bestGiven, b_given) => (∀ k : Nat, k < 4 → inR (b_sets k) 0 127 = true) ∧ wB E (va_A [(h0, .inr (12, mG q i_taped i_size i_sort i_what i_at i_end i_worth i_faultKind i_faultPlace i_got i_worked (nI dl) i_isPlanned i_bestDone i_bestCost)), (q 51, .inl (E.2.1 0, 512, .inl a_least)), (q 55, .inl (E.2.1 0, 4, .inl a_sets)), (q 54, .inl (E.2.1 0, 7, .inl a_bestGiven)), (q 53, .inl (E.2.1 0, 7, .inl a_given))] sz) [(h0, .inr (12, mG q i_taped i_size i_sort i_what i_at i_end i_worth i_faultKind i_faultPlace i_got i_worked (nI dl) i_isPlanned bd2 bc2)), (q 51, .inl (E.2.1 0, 512, .inl a_least)), (q 55, .inl (E.2.1 0, 4, .inl b_sets)), (q 54, .inl (E.2.1 0, 7, .inl b_bestGiven)), (q 53, .inl (E.2.1 0, 7, .inl b_given))] t) (va_A [(h0, .inr (12, mG q i_taped i_size i_sort i_what i_at i_end i_worth i_faultKind i_faultPlace i_got i_worked (nI dl) i_isPlanned i_bestDone i_bestCost)), (q 51, .inl (E.2.1 0, 512, .inl a_least)), (q 55, .inl (E.2.1 0, 4, .inl a_sets)), (q 54, .inl (E.2.1 0, 7, .inl a_bestGiven)), (q 53, .inl (E.2.1 0, 7, .inl a_given))] sz)) 0 0 (va_A [(h0, .inr (12, mG q i_taped i_size i_sort i_what i_at i_end i_worth i_faultKind i_faultPlace i_got i_worked (nI dl) i_isPlanned i_bestDone i_bestCost)), (q 51, .inl (E.2.1 0, 512, .inl a_least)), (q 55, .inl (E.2.1 0, 4, .inl a_sets)), (q 54, .inl (E.2.1 0, 7, .inl a_bestGiven)), (q 53, .inl (E.2.1 0, 7, .inl a_given))] sz) := by
  refine Met.ofW (cc := cX12_give) (maxL := 6) (ret := none) (by decide) rfl ?_
  intro p e s m args below meth c s₁ B hml hv
  obtain ⟨rfl, hsz, hP, hkn, hD0, hst⟩ := hv
  have hx := B.exec
  have hb := B.bytes
  have hr := B.returns
  have hts := atoms_spec (ws := wsX12_give) B.pre
  have hown : s.vm.findClass RX12 = some m.cls := findClass_of_methodNamed B.named
  have hlocks := B.notSynchronized
  subst hsz
  have hD := hD0.self (sz := s.heap.size)
  have hK := hkn.1
  have hAO := hkn.2.2.1
  generalize hAe : va_A [(h0, .inr (12, mG q i_taped i_size i_sort i_what i_at i_end i_worth i_faultKind i_faultPlace i_got i_worked (nI dl) i_isPlanned i_bestDone i_bestCost)), (q 51, .inl (E.2.1 0, 512, .inl a_least)), (q 55, .inl (E.2.1 0, 4, .inl a_sets)), (q 54, .inl (E.2.1 0, 7, .inl a_bestGiven)), (q 53, .inl (E.2.1 0, 7, .inl a_given))] s.heap.size = A at hD hst ⊢
  have hA : ∀ q : Nat, s.heap.size ≤ q → A q := fun q h => by rw [← hAe]; exact Or.inr h
  have hS : va_S A s.heap s.heap [] := va_S.rf
  have hP : va_P E.1 vwCl [(h0, .inr (12, mG q i_taped i_size i_sort i_what i_at i_end i_worth i_faultKind i_faultPlace i_got i_worked (nI dl) i_isPlanned i_bestDone i_bestCost)), (q 51, .inl (E.2.1 0, 512, .inl a_least)), (q 55, .inl (E.2.1 0, 4, .inl a_sets)), (q 54, .inl (E.2.1 0, 7, .inl a_bestGiven)), (q 53, .inl (E.2.1 0, 7, .inl a_given))] s.heap := hP
  have hl := lv_entry ([.ref h0, .int 2]) (n := 6) (Nat.le_of_ble_eq_true rfl)
  rw [lg_entry_eq]
  generalize (lg_sl ([.ref h0, .int 2]) ++ List.replicate (6 - (lg_sl ([.ref h0, .int 2])).length) Slot.unset).toArray = ls at hl ⊢
  have hl : lv_has ls 6 [(0, .ref h0), (1, .int 2)] := hl
  have fl130 := hts (.fieldLink RX12 130 "BoatsHomeModel" "least" "[I") (by first | exact List.mem_of_getElem? (i := 2) rfl | decide +kernel)
  have fl136 := hts (.fieldLink RX12 136 "BoatsHomeModel" "given" "[I") (by first | exact List.mem_of_getElem? (i := 7) rfl | decide +kernel)
  have fl139 := hts (.fieldLink RX12 139 "BoatsHomeModel" "bestGiven" "[I") (by first | exact List.mem_of_getElem? (i := 6) rfl | decide +kernel)
  have fl142 := hts (.fieldLink RX12 142 "BoatsHomeModel" "sets" "[I") (by first | exact List.mem_of_getElem? (i := 3) rfl | decide +kernel)
  have fl289 := hts (.fieldLink RX12 289 "BoatsHomeModel" "deliveries" "I") (by first | exact List.mem_of_getElem? (i := 1) rfl | decide +kernel)
  have fl300 := hts (.fieldLink RX12 300 "BoatsHomeModel" "bestDone" "I") (by first | exact List.mem_of_getElem? (i := 4) rfl | decide +kernel)
  have fl303 := hts (.fieldLink RX12 303 "BoatsHomeModel" "bestCost" "I") (by first | exact List.mem_of_getElem? (i := 5) rfl | decide +kernel)
  have inX12 : ∀ w ∈ u_ws RX12 TX12 59, w ∈ wsX12_give := by first | exact fun w h9 => (List.mem_cons_of_mem _ (List.mem_append_right _ h9)) | decide +kernel
  refine lv_iload_n hx hb dX12_give_0 rfl (lv_at hl 1 rfl) ?_
  refine lv_aload_n hx hb dX12_give_1 rfl (lv_at hl 0 rfl) ?_
  refine va_get (D := E.1) (ci := 12) (v := .int (nI dl)) (C := RX12) (T := TX12) (N := 59) hx hb hts inX12 hown hK hP 0 rfl rfl 41 (by decide) fl289 (fun _ h9 => h9) rfl dX12_give_2 ?_
  refine lv_icmp_ne (tgt := 170) hx hb dX12_give_5 (by decide) (fun c_1 => ?_) (fun c_1 => ?_)
  · have hd2 : 2 + 1 ≤ dl := by
      rcases Nat.lt_or_ge 2 dl with q | q
      · exact q
      · exact absurd (by rw [show dl = 2 by omega]; rfl) c_1
    refine lv_iconst (v := 0) hx hb dX12_give_170 (by decide) ?_
    refine lv_istore_n (lv' := [(2, .int 0), (0, .ref h0), (1, .int 2)]) hx hb dX12_give_171 rfl hl (by decide) rfl (fun ls hl => ?_)
    refine lv_iload_n hx hb dX12_give_172 rfl (lv_at hl 0 rfl) ?_
    refine lv_iconst (v := 4) hx hb dX12_give_173 (by decide) ?_
    refine lv_icmp_ge (tgt := 223) hx hb dX12_give_174 (by decide) (fun c9 => absurd c9 (by decide)) (fun _ => ?_)
    refine lv_aload_n hx hb dX12_give_177 rfl (lv_at hl 1 rfl) ?_
    refine va_get (D := E.1) (ci := 12) (v := .ref (q 53)) (C := RX12) (T := TX12) (N := 59) hx hb hts inX12 hown hK hP 0 rfl rfl 53 (by decide) fl136 (fun _ h9 => h9) rfl dX12_give_178 ?_
    refine lv_iload_n hx hb dX12_give_181 rfl (lv_at hl 2 rfl) ?_
    refine lv_iload_n hx hb dX12_give_182 rfl (lv_at hl 0 rfl) ?_
    refine va_iast hx hb hK hP hD hS 4 0 rfl rfl (show vp_in 2 7 from by unfold vp_in; decide) dX12_give_183 (fun H locs hP hD hS => ?_)
    have hP : va_P E.1 vwCl [(h0, .inr (12, mG q i_taped i_size i_sort i_what i_at i_end i_worth i_faultKind i_faultPlace i_got i_worked (nI dl) i_isPlanned i_bestDone i_bestCost)), (q 51, .inl (E.2.1 0, 512, .inl a_least)), (q 55, .inl (E.2.1 0, 4, .inl a_sets)), (q 54, .inl (E.2.1 0, 7, .inl a_bestGiven)), (q 53, .inl (E.2.1 0, 7, .inl (upd a_given (Int32.toNatClampNeg 2) 0)))] H := hP
    have hD : va_D A [(h0, .inr (12, mG q i_taped i_size i_sort i_what i_at i_end i_worth i_faultKind i_faultPlace i_got i_worked (nI dl) i_isPlanned i_bestDone i_bestCost)), (q 51, .inl (E.2.1 0, 512, .inl a_least)), (q 55, .inl (E.2.1 0, 4, .inl a_sets)), (q 54, .inl (E.2.1 0, 7, .inl a_bestGiven)), (q 53, .inl (E.2.1 0, 7, .inl (upd a_given (Int32.toNatClampNeg 2) 0)))] := hD
    obtain ⟨f_2, ef_2⟩ : ∃ g : Nat → Int32, g = upd a_given (Int32.toNatClampNeg 2) 0 := ⟨_, rfl⟩
    rw [← ef_2] at hP hD
    refine lv_aload_n hx hb dX12_give_184 rfl (lv_at hl 1 rfl) ?_
    refine va_get (D := E.1) (ci := 12) (v := .ref (q 55)) (C := RX12) (T := TX12) (N := 59) hx hb hts inX12 hown hK hP 0 rfl rfl 55 (by decide) fl142 (fun _ h9 => h9) rfl dX12_give_185 ?_
    refine lv_iload_n hx hb dX12_give_188 rfl (lv_at hl 0 rfl) ?_
    refine lv_dup2_11 hx hb dX12_give_189 rfl rfl ?_
    refine va_iald hx hb hK hP 2 0 rfl rfl (show vp_in 0 4 from by unfold vp_in; decide) dX12_give_190 ?_
    refine lv_topi (fun x_3 ex_3 => ?_)
    have hv_4 : inR x_3 0 127 = true := by rw [ex_3]; exact hI_sets _ (vin_cl (show vp_in 0 4 from by unfold vp_in; decide))
    obtain ⟨w_5, hw_6, ew_7⟩ := inR_nI (n := 127) (by decide) hv_4
    subst ew_7
    refine lv_iconst (v := 1) hx hb dX12_give_191 (by decide) ?_
    refine lv_iload_n hx hb dX12_give_192 rfl (lv_at hl 2 rfl) ?_
    refine lv_ishl hx hb dX12_give_193 ?_
    refine lv_topi (fun x_8 ex_8 => ?_)
    obtain rfl : x_8 = 4 := ex_8.trans (by decide +kernel)
    refine lv_ior hx hb dX12_give_194 ?_
    refine lv_topi (fun x_9 ex_9 => ?_)
    refine va_iast hx hb hK hP hD hS 2 0 rfl rfl (show vp_in 0 4 from by unfold vp_in; decide) dX12_give_195 (fun H locs hP hD hS => ?_)
    have hP : va_P E.1 vwCl [(h0, .inr (12, mG q i_taped i_size i_sort i_what i_at i_end i_worth i_faultKind i_faultPlace i_got i_worked (nI dl) i_isPlanned i_bestDone i_bestCost)), (q 51, .inl (E.2.1 0, 512, .inl a_least)), (q 55, .inl (E.2.1 0, 4, .inl (upd a_sets (Int32.toNatClampNeg 0) x_9))), (q 54, .inl (E.2.1 0, 7, .inl a_bestGiven)), (q 53, .inl (E.2.1 0, 7, .inl f_2))] H := hP
    have hD : va_D A [(h0, .inr (12, mG q i_taped i_size i_sort i_what i_at i_end i_worth i_faultKind i_faultPlace i_got i_worked (nI dl) i_isPlanned i_bestDone i_bestCost)), (q 51, .inl (E.2.1 0, 512, .inl a_least)), (q 55, .inl (E.2.1 0, 4, .inl (upd a_sets (Int32.toNatClampNeg 0) x_9))), (q 54, .inl (E.2.1 0, 7, .inl a_bestGiven)), (q 53, .inl (E.2.1 0, 7, .inl f_2))] := hD
    obtain ⟨f_10, ef_10⟩ : ∃ g : Nat → Int32, g = upd a_sets (Int32.toNatClampNeg 0) x_9 := ⟨_, rfl⟩
    rw [← ef_10] at hP hD
    have hI_11 : ∀ k : Nat, k < 4 → inR (f_10 k) 0 127 = true := by rw [ef_10]; exact all_upd (P := fun z => inR z 0 127 = true) hI_sets (by rw [ex_9]; exact or_lt7 _ (by omega) 2 (by decide))
    refine lv_aload_n hx hb dX12_give_196 rfl (lv_at hl 1 rfl) ?_
    refine lv_iload_n hx hb dX12_give_197 rfl (lv_at hl 2 rfl) ?_
    refine lv_iconst (v := 1) hx hb dX12_give_198 (by decide) ?_
    refine lv_iadd hx hb dX12_give_199 ?_
    refine lv_topi (fun x_12 ex_12 => ?_)
    obtain rfl : x_12 = 3 := ex_12.trans (by decide +kernel)
    have hPc := hP.sub (ws' := [(h0, .inr (12, mG q i_taped i_size i_sort i_what i_at i_end i_worth i_faultKind i_faultPlace i_got i_worked (nI dl) i_isPlanned i_bestDone i_bestCost)), (q 51, .inl (E.2.1 0, 512, .inl a_least)), (q 55, .inl (E.2.1 0, 4, .inl f_10)), (q 54, .inl (E.2.1 0, 7, .inl a_bestGiven)), (q 53, .inl (E.2.1 0, 7, .inl f_2))]) [0, 1, 2, 3, 4] rfl
    have hDc := hD.sub (ws' := [(h0, .inr (12, mG q i_taped i_size i_sort i_what i_at i_end i_worth i_faultKind i_faultPlace i_got i_worked (nI dl) i_isPlanned i_bestDone i_bestCost)), (q 51, .inl (E.2.1 0, 512, .inl a_least)), (q 55, .inl (E.2.1 0, 4, .inl f_10)), (q 54, .inl (E.2.1 0, 7, .inl a_bestGiven)), (q 53, .inl (E.2.1 0, 7, .inl f_2))]) [0, 1, 2, 3, 4] (by decide) rfl
    have hFc := va_free (wc := [(h0, .inr (12, mG q i_taped i_size i_sort i_what i_at i_end i_worth i_faultKind i_faultPlace i_got i_worked (nI dl) i_isPlanned i_bestDone i_bestCost)), (q 51, .inl (E.2.1 0, 512, .inl a_least)), (q 55, .inl (E.2.1 0, 4, .inl f_10)), (q 54, .inl (E.2.1 0, 7, .inl a_bestGiven)), (q 53, .inl (E.2.1 0, 7, .inl f_2))]) hD hS hA [0, 1, 2, 3, 4] rfl
    refine va_callv (va_runV (As := [.int 3]) (rest := []) ⟨hx, hb, hml, hown, hts⟩ (c_X12_give3 l E h0 q i_taped i_size i_sort i_what i_at i_end i_worth i_faultKind i_faultPlace i_got i_worked i_isPlanned i_bestDone i_bestCost dl a_least f_10 a_bestGiven f_2 H.size hdl hd2 hI_11) (cwV 1 hts gX12_give_X12_give rfl rfl rfl hdV_X12_give ⟨Nat.le_of_ble_eq_true rfl, Nat.le_of_ble_eq_true rfl⟩) ⟨pcW_blind, va_recv hK hPc (ci := 12) (q0 := 0) rfl rfl, (pcW_pre hPc hkn hDc hst hS hFc)⟩ rfl rfl hl.1 rfl (lv_room (Nat.le_of_ble_eq_true rfl)) dX12_give_200 ⟨Nat.le_of_ble_eq_true rfl, Nat.le_of_ble_eq_true rfl⟩) hS (fun q _ h => hFc q h) hFc (fun u t H1 locs ht hvm hw_14 hB hz1 hk1 hS => ?_)
    obtain ⟨u_15, u_16, u_17, u_18, u_19⟩ := u
    obtain ⟨hf_20, hP1, hD1⟩ := hB
    rw [ht] at hP1
    try dsimp only at hw_14
    obtain ⟨hP, hD⟩ := va_join (wr := []) (w1 := [(h0, .inr (12, mG q i_taped i_size i_sort i_what i_at i_end i_worth i_faultKind i_faultPlace i_got i_worked (nI dl) i_isPlanned u_15 u_16)), (q 51, .inl (E.2.1 0, 512, .inl a_least)), (q 55, .inl (E.2.1 0, 4, .inl u_17)), (q 54, .inl (E.2.1 0, 7, .inl u_18)), (q 53, .inl (E.2.1 0, 7, .inl u_19))]) hP hD [0, 1, 2, 3, 4] [] rfl rfl (by decide) (by decide) hk1 hFc hP1 hD1
    generalize H1 = H at hP hS ⊢
    have hP : va_P E.1 vwCl [(h0, .inr (12, mG q i_taped i_size i_sort i_what i_at i_end i_worth i_faultKind i_faultPlace i_got i_worked (nI dl) i_isPlanned u_15 u_16)), (q 51, .inl (E.2.1 0, 512, .inl a_least)), (q 55, .inl (E.2.1 0, 4, .inl u_17)), (q 54, .inl (E.2.1 0, 7, .inl u_18)), (q 53, .inl (E.2.1 0, 7, .inl u_19))] H := hP
    have hD : va_D A [(h0, .inr (12, mG q i_taped i_size i_sort i_what i_at i_end i_worth i_faultKind i_faultPlace i_got i_worked (nI dl) i_isPlanned u_15 u_16)), (q 51, .inl (E.2.1 0, 512, .inl a_least)), (q 55, .inl (E.2.1 0, 4, .inl u_17)), (q 54, .inl (E.2.1 0, 7, .inl u_18)), (q 53, .inl (E.2.1 0, 7, .inl u_19))] := hD
    refine lv_aload_n hx hb dX12_give_203 rfl (lv_at hl 1 rfl) ?_
    refine va_get (D := E.1) (ci := 12) (v := .ref (q 55)) (C := RX12) (T := TX12) (N := 59) hx hb hts inX12 hown hK hP 0 rfl rfl 55 (by decide) fl142 (fun _ h9 => h9) rfl dX12_give_204 ?_
    refine lv_iload_n hx hb dX12_give_207 rfl (lv_at hl 0 rfl) ?_
    refine lv_dup2_11 hx hb dX12_give_208 rfl rfl ?_
    refine va_iald hx hb hK hP 2 0 rfl rfl (show vp_in 0 4 from by unfold vp_in; decide) dX12_give_209 ?_
    refine lv_topi (fun x_21 ex_21 => ?_)
    have hv_22 : inR x_21 0 127 = true := by rw [ex_21]; exact hf_20 _ (vin_cl (show vp_in 0 4 from by unfold vp_in; decide))
    obtain ⟨w_23, hw_24, ew_25⟩ := inR_nI (n := 127) (by decide) hv_22
    subst ew_25
    refine lv_iconst (v := 1) hx hb dX12_give_210 (by decide) ?_
    refine lv_iload_n hx hb dX12_give_211 rfl (lv_at hl 2 rfl) ?_
    refine lv_ishl hx hb dX12_give_212 ?_
    refine lv_topi (fun x_26 ex_26 => ?_)
    obtain rfl : x_26 = 4 := ex_26.trans (by decide +kernel)
    refine lv_iconst (v := (-1)) hx hb dX12_give_213 (by decide) ?_
    refine lv_ixor hx hb dX12_give_214 ?_
    refine lv_topi (fun x_27 ex_27 => ?_)
    obtain rfl : x_27 = (-5) := ex_27.trans (by decide +kernel)
    refine lv_iand hx hb dX12_give_215 ?_
    refine lv_topi (fun x_28 ex_28 => ?_)
    refine va_iast hx hb hK hP hD hS 2 0 rfl rfl (show vp_in 0 4 from by unfold vp_in; decide) dX12_give_216 (fun H locs hP hD hS => ?_)
    have hP : va_P E.1 vwCl [(h0, .inr (12, mG q i_taped i_size i_sort i_what i_at i_end i_worth i_faultKind i_faultPlace i_got i_worked (nI dl) i_isPlanned u_15 u_16)), (q 51, .inl (E.2.1 0, 512, .inl a_least)), (q 55, .inl (E.2.1 0, 4, .inl (upd u_17 (Int32.toNatClampNeg 0) x_28))), (q 54, .inl (E.2.1 0, 7, .inl u_18)), (q 53, .inl (E.2.1 0, 7, .inl u_19))] H := hP
    have hD : va_D A [(h0, .inr (12, mG q i_taped i_size i_sort i_what i_at i_end i_worth i_faultKind i_faultPlace i_got i_worked (nI dl) i_isPlanned u_15 u_16)), (q 51, .inl (E.2.1 0, 512, .inl a_least)), (q 55, .inl (E.2.1 0, 4, .inl (upd u_17 (Int32.toNatClampNeg 0) x_28))), (q 54, .inl (E.2.1 0, 7, .inl u_18)), (q 53, .inl (E.2.1 0, 7, .inl u_19))] := hD
    obtain ⟨f_29, ef_29⟩ : ∃ g : Nat → Int32, g = upd u_17 (Int32.toNatClampNeg 0) x_28 := ⟨_, rfl⟩
    rw [← ef_29] at hP hD
    have hI_30 : ∀ k : Nat, k < 4 → inR (f_29 k) 0 127 = true := by rw [ef_29]; exact all_upd (P := fun z => inR z 0 127 = true) hf_20 (by rw [ex_28]; exact and_lt7 _ (by omega) 2 (by decide))
    refine lv_iinc (v := 1) (lv' := [(2, .int 1), (0, .ref h0), (1, .int 2)]) hx hb dX12_give_217 hl (k := 0) rfl (by decide) (by decide) rfl (fun ls hl => ?_)
    refine lv_goto (tgt := 172) hx hb dX12_give_220 (by decide) ?_
    refine lv_iload_n hx hb dX12_give_172 rfl (lv_at hl 0 rfl) ?_
    refine lv_iconst (v := 4) hx hb dX12_give_173 (by decide) ?_
    refine lv_icmp_ge (tgt := 223) hx hb dX12_give_174 (by decide) (fun c9 => absurd c9 (by decide)) (fun _ => ?_)
    refine lv_aload_n hx hb dX12_give_177 rfl (lv_at hl 1 rfl) ?_
    refine va_get (D := E.1) (ci := 12) (v := .ref (q 53)) (C := RX12) (T := TX12) (N := 59) hx hb hts inX12 hown hK hP 0 rfl rfl 53 (by decide) fl136 (fun _ h9 => h9) rfl dX12_give_178 ?_
    refine lv_iload_n hx hb dX12_give_181 rfl (lv_at hl 2 rfl) ?_
    refine lv_iload_n hx hb dX12_give_182 rfl (lv_at hl 0 rfl) ?_
    refine va_iast hx hb hK hP hD hS 4 0 rfl rfl (show vp_in 2 7 from by unfold vp_in; decide) dX12_give_183 (fun H locs hP hD hS => ?_)
    have hP : va_P E.1 vwCl [(h0, .inr (12, mG q i_taped i_size i_sort i_what i_at i_end i_worth i_faultKind i_faultPlace i_got i_worked (nI dl) i_isPlanned u_15 u_16)), (q 51, .inl (E.2.1 0, 512, .inl a_least)), (q 55, .inl (E.2.1 0, 4, .inl f_29)), (q 54, .inl (E.2.1 0, 7, .inl u_18)), (q 53, .inl (E.2.1 0, 7, .inl (upd u_19 (Int32.toNatClampNeg 2) 1)))] H := hP
    have hD : va_D A [(h0, .inr (12, mG q i_taped i_size i_sort i_what i_at i_end i_worth i_faultKind i_faultPlace i_got i_worked (nI dl) i_isPlanned u_15 u_16)), (q 51, .inl (E.2.1 0, 512, .inl a_least)), (q 55, .inl (E.2.1 0, 4, .inl f_29)), (q 54, .inl (E.2.1 0, 7, .inl u_18)), (q 53, .inl (E.2.1 0, 7, .inl (upd u_19 (Int32.toNatClampNeg 2) 1)))] := hD
    obtain ⟨f_31, ef_31⟩ : ∃ g : Nat → Int32, g = upd u_19 (Int32.toNatClampNeg 2) 1 := ⟨_, rfl⟩
    rw [← ef_31] at hP hD
    refine lv_aload_n hx hb dX12_give_184 rfl (lv_at hl 1 rfl) ?_
    refine va_get (D := E.1) (ci := 12) (v := .ref (q 55)) (C := RX12) (T := TX12) (N := 59) hx hb hts inX12 hown hK hP 0 rfl rfl 55 (by decide) fl142 (fun _ h9 => h9) rfl dX12_give_185 ?_
    refine lv_iload_n hx hb dX12_give_188 rfl (lv_at hl 0 rfl) ?_
    refine lv_dup2_11 hx hb dX12_give_189 rfl rfl ?_
    refine va_iald hx hb hK hP 2 0 rfl rfl (show vp_in 1 4 from by unfold vp_in; decide) dX12_give_190 ?_
    refine lv_topi (fun x_32 ex_32 => ?_)
    have hv_33 : inR x_32 0 127 = true := by rw [ex_32]; exact hI_30 _ (vin_cl (show vp_in 1 4 from by unfold vp_in; decide))
    obtain ⟨w_34, hw_35, ew_36⟩ := inR_nI (n := 127) (by decide) hv_33
    subst ew_36
    refine lv_iconst (v := 1) hx hb dX12_give_191 (by decide) ?_
    refine lv_iload_n hx hb dX12_give_192 rfl (lv_at hl 2 rfl) ?_
    refine lv_ishl hx hb dX12_give_193 ?_
    refine lv_topi (fun x_37 ex_37 => ?_)
    obtain rfl : x_37 = 4 := ex_37.trans (by decide +kernel)
    refine lv_ior hx hb dX12_give_194 ?_
    refine lv_topi (fun x_38 ex_38 => ?_)
    refine va_iast hx hb hK hP hD hS 2 0 rfl rfl (show vp_in 1 4 from by unfold vp_in; decide) dX12_give_195 (fun H locs hP hD hS => ?_)
    have hP : va_P E.1 vwCl [(h0, .inr (12, mG q i_taped i_size i_sort i_what i_at i_end i_worth i_faultKind i_faultPlace i_got i_worked (nI dl) i_isPlanned u_15 u_16)), (q 51, .inl (E.2.1 0, 512, .inl a_least)), (q 55, .inl (E.2.1 0, 4, .inl (upd f_29 (Int32.toNatClampNeg 1) x_38))), (q 54, .inl (E.2.1 0, 7, .inl u_18)), (q 53, .inl (E.2.1 0, 7, .inl f_31))] H := hP
    have hD : va_D A [(h0, .inr (12, mG q i_taped i_size i_sort i_what i_at i_end i_worth i_faultKind i_faultPlace i_got i_worked (nI dl) i_isPlanned u_15 u_16)), (q 51, .inl (E.2.1 0, 512, .inl a_least)), (q 55, .inl (E.2.1 0, 4, .inl (upd f_29 (Int32.toNatClampNeg 1) x_38))), (q 54, .inl (E.2.1 0, 7, .inl u_18)), (q 53, .inl (E.2.1 0, 7, .inl f_31))] := hD
    obtain ⟨f_39, ef_39⟩ : ∃ g : Nat → Int32, g = upd f_29 (Int32.toNatClampNeg 1) x_38 := ⟨_, rfl⟩
    rw [← ef_39] at hP hD
    have hI_40 : ∀ k : Nat, k < 4 → inR (f_39 k) 0 127 = true := by rw [ef_39]; exact all_upd (P := fun z => inR z 0 127 = true) hI_30 (by rw [ex_38]; exact or_lt7 _ (by omega) 2 (by decide))
    refine lv_aload_n hx hb dX12_give_196 rfl (lv_at hl 1 rfl) ?_
    refine lv_iload_n hx hb dX12_give_197 rfl (lv_at hl 2 rfl) ?_
    refine lv_iconst (v := 1) hx hb dX12_give_198 (by decide) ?_
    refine lv_iadd hx hb dX12_give_199 ?_
    refine lv_topi (fun x_41 ex_41 => ?_)
    obtain rfl : x_41 = 3 := ex_41.trans (by decide +kernel)
    have hPc := hP.sub (ws' := [(h0, .inr (12, mG q i_taped i_size i_sort i_what i_at i_end i_worth i_faultKind i_faultPlace i_got i_worked (nI dl) i_isPlanned u_15 u_16)), (q 51, .inl (E.2.1 0, 512, .inl a_least)), (q 55, .inl (E.2.1 0, 4, .inl f_39)), (q 54, .inl (E.2.1 0, 7, .inl u_18)), (q 53, .inl (E.2.1 0, 7, .inl f_31))]) [0, 1, 2, 3, 4] rfl
    have hDc := hD.sub (ws' := [(h0, .inr (12, mG q i_taped i_size i_sort i_what i_at i_end i_worth i_faultKind i_faultPlace i_got i_worked (nI dl) i_isPlanned u_15 u_16)), (q 51, .inl (E.2.1 0, 512, .inl a_least)), (q 55, .inl (E.2.1 0, 4, .inl f_39)), (q 54, .inl (E.2.1 0, 7, .inl u_18)), (q 53, .inl (E.2.1 0, 7, .inl f_31))]) [0, 1, 2, 3, 4] (by decide) rfl
    have hFc := va_free (wc := [(h0, .inr (12, mG q i_taped i_size i_sort i_what i_at i_end i_worth i_faultKind i_faultPlace i_got i_worked (nI dl) i_isPlanned u_15 u_16)), (q 51, .inl (E.2.1 0, 512, .inl a_least)), (q 55, .inl (E.2.1 0, 4, .inl f_39)), (q 54, .inl (E.2.1 0, 7, .inl u_18)), (q 53, .inl (E.2.1 0, 7, .inl f_31))]) hD hS hA [0, 1, 2, 3, 4] rfl
    refine va_callv (va_runV (As := [.int 3]) (rest := []) ⟨hx, hb, hml, hown, hts⟩ (c_X12_give3 l E h0 q i_taped i_size i_sort i_what i_at i_end i_worth i_faultKind i_faultPlace i_got i_worked i_isPlanned u_15 u_16 dl a_least f_39 u_18 f_31 H.size hdl hd2 hI_40) (cwV 1 hts gX12_give_X12_give rfl rfl rfl hdV_X12_give ⟨Nat.le_of_ble_eq_true rfl, Nat.le_of_ble_eq_true rfl⟩) ⟨pcW_blind, va_recv hK hPc (ci := 12) (q0 := 0) rfl rfl, (pcW_pre hPc hkn hDc hst hS hFc)⟩ rfl rfl hl.1 rfl (lv_room (Nat.le_of_ble_eq_true rfl)) dX12_give_200 ⟨Nat.le_of_ble_eq_true rfl, Nat.le_of_ble_eq_true rfl⟩) hS (fun q _ h => hFc q h) hFc (fun u t H1 locs ht hvm hw_43 hB hz1 hk1 hS => ?_)
    obtain ⟨u_44, u_45, u_46, u_47, u_48⟩ := u
    obtain ⟨hf_49, hP1, hD1⟩ := hB
    rw [ht] at hP1
    try dsimp only at hw_43
    obtain ⟨hP, hD⟩ := va_join (wr := []) (w1 := [(h0, .inr (12, mG q i_taped i_size i_sort i_what i_at i_end i_worth i_faultKind i_faultPlace i_got i_worked (nI dl) i_isPlanned u_44 u_45)), (q 51, .inl (E.2.1 0, 512, .inl a_least)), (q 55, .inl (E.2.1 0, 4, .inl u_46)), (q 54, .inl (E.2.1 0, 7, .inl u_47)), (q 53, .inl (E.2.1 0, 7, .inl u_48))]) hP hD [0, 1, 2, 3, 4] [] rfl rfl (by decide) (by decide) hk1 hFc hP1 hD1
    generalize H1 = H at hP hS ⊢
    have hP : va_P E.1 vwCl [(h0, .inr (12, mG q i_taped i_size i_sort i_what i_at i_end i_worth i_faultKind i_faultPlace i_got i_worked (nI dl) i_isPlanned u_44 u_45)), (q 51, .inl (E.2.1 0, 512, .inl a_least)), (q 55, .inl (E.2.1 0, 4, .inl u_46)), (q 54, .inl (E.2.1 0, 7, .inl u_47)), (q 53, .inl (E.2.1 0, 7, .inl u_48))] H := hP
    have hD : va_D A [(h0, .inr (12, mG q i_taped i_size i_sort i_what i_at i_end i_worth i_faultKind i_faultPlace i_got i_worked (nI dl) i_isPlanned u_44 u_45)), (q 51, .inl (E.2.1 0, 512, .inl a_least)), (q 55, .inl (E.2.1 0, 4, .inl u_46)), (q 54, .inl (E.2.1 0, 7, .inl u_47)), (q 53, .inl (E.2.1 0, 7, .inl u_48))] := hD
    refine lv_aload_n hx hb dX12_give_203 rfl (lv_at hl 1 rfl) ?_
    refine va_get (D := E.1) (ci := 12) (v := .ref (q 55)) (C := RX12) (T := TX12) (N := 59) hx hb hts inX12 hown hK hP 0 rfl rfl 55 (by decide) fl142 (fun _ h9 => h9) rfl dX12_give_204 ?_
    refine lv_iload_n hx hb dX12_give_207 rfl (lv_at hl 0 rfl) ?_
    refine lv_dup2_11 hx hb dX12_give_208 rfl rfl ?_
    refine va_iald hx hb hK hP 2 0 rfl rfl (show vp_in 1 4 from by unfold vp_in; decide) dX12_give_209 ?_
    refine lv_topi (fun x_50 ex_50 => ?_)
    have hv_51 : inR x_50 0 127 = true := by rw [ex_50]; exact hf_49 _ (vin_cl (show vp_in 1 4 from by unfold vp_in; decide))
    obtain ⟨w_52, hw_53, ew_54⟩ := inR_nI (n := 127) (by decide) hv_51
    subst ew_54
    refine lv_iconst (v := 1) hx hb dX12_give_210 (by decide) ?_
    refine lv_iload_n hx hb dX12_give_211 rfl (lv_at hl 2 rfl) ?_
    refine lv_ishl hx hb dX12_give_212 ?_
    refine lv_topi (fun x_55 ex_55 => ?_)
    obtain rfl : x_55 = 4 := ex_55.trans (by decide +kernel)
    refine lv_iconst (v := (-1)) hx hb dX12_give_213 (by decide) ?_
    refine lv_ixor hx hb dX12_give_214 ?_
    refine lv_topi (fun x_56 ex_56 => ?_)
    obtain rfl : x_56 = (-5) := ex_56.trans (by decide +kernel)
    refine lv_iand hx hb dX12_give_215 ?_
    refine lv_topi (fun x_57 ex_57 => ?_)
    refine va_iast hx hb hK hP hD hS 2 0 rfl rfl (show vp_in 1 4 from by unfold vp_in; decide) dX12_give_216 (fun H locs hP hD hS => ?_)
    have hP : va_P E.1 vwCl [(h0, .inr (12, mG q i_taped i_size i_sort i_what i_at i_end i_worth i_faultKind i_faultPlace i_got i_worked (nI dl) i_isPlanned u_44 u_45)), (q 51, .inl (E.2.1 0, 512, .inl a_least)), (q 55, .inl (E.2.1 0, 4, .inl (upd u_46 (Int32.toNatClampNeg 1) x_57))), (q 54, .inl (E.2.1 0, 7, .inl u_47)), (q 53, .inl (E.2.1 0, 7, .inl u_48))] H := hP
    have hD : va_D A [(h0, .inr (12, mG q i_taped i_size i_sort i_what i_at i_end i_worth i_faultKind i_faultPlace i_got i_worked (nI dl) i_isPlanned u_44 u_45)), (q 51, .inl (E.2.1 0, 512, .inl a_least)), (q 55, .inl (E.2.1 0, 4, .inl (upd u_46 (Int32.toNatClampNeg 1) x_57))), (q 54, .inl (E.2.1 0, 7, .inl u_47)), (q 53, .inl (E.2.1 0, 7, .inl u_48))] := hD
    obtain ⟨f_58, ef_58⟩ : ∃ g : Nat → Int32, g = upd u_46 (Int32.toNatClampNeg 1) x_57 := ⟨_, rfl⟩
    rw [← ef_58] at hP hD
    have hI_59 : ∀ k : Nat, k < 4 → inR (f_58 k) 0 127 = true := by rw [ef_58]; exact all_upd (P := fun z => inR z 0 127 = true) hf_49 (by rw [ex_57]; exact and_lt7 _ (by omega) 2 (by decide))
    refine lv_iinc (v := 2) (lv' := [(2, .int 2), (0, .ref h0), (1, .int 2)]) hx hb dX12_give_217 hl (k := 0) rfl (by decide) (by decide) rfl (fun ls hl => ?_)
    refine lv_goto (tgt := 172) hx hb dX12_give_220 (by decide) ?_
    refine lv_iload_n hx hb dX12_give_172 rfl (lv_at hl 0 rfl) ?_
    refine lv_iconst (v := 4) hx hb dX12_give_173 (by decide) ?_
    refine lv_icmp_ge (tgt := 223) hx hb dX12_give_174 (by decide) (fun c9 => absurd c9 (by decide)) (fun _ => ?_)
    refine lv_aload_n hx hb dX12_give_177 rfl (lv_at hl 1 rfl) ?_
    refine va_get (D := E.1) (ci := 12) (v := .ref (q 53)) (C := RX12) (T := TX12) (N := 59) hx hb hts inX12 hown hK hP 0 rfl rfl 53 (by decide) fl136 (fun _ h9 => h9) rfl dX12_give_178 ?_
    refine lv_iload_n hx hb dX12_give_181 rfl (lv_at hl 2 rfl) ?_
    refine lv_iload_n hx hb dX12_give_182 rfl (lv_at hl 0 rfl) ?_
    refine va_iast hx hb hK hP hD hS 4 0 rfl rfl (show vp_in 2 7 from by unfold vp_in; decide) dX12_give_183 (fun H locs hP hD hS => ?_)
    have hP : va_P E.1 vwCl [(h0, .inr (12, mG q i_taped i_size i_sort i_what i_at i_end i_worth i_faultKind i_faultPlace i_got i_worked (nI dl) i_isPlanned u_44 u_45)), (q 51, .inl (E.2.1 0, 512, .inl a_least)), (q 55, .inl (E.2.1 0, 4, .inl f_58)), (q 54, .inl (E.2.1 0, 7, .inl u_47)), (q 53, .inl (E.2.1 0, 7, .inl (upd u_48 (Int32.toNatClampNeg 2) 2)))] H := hP
    have hD : va_D A [(h0, .inr (12, mG q i_taped i_size i_sort i_what i_at i_end i_worth i_faultKind i_faultPlace i_got i_worked (nI dl) i_isPlanned u_44 u_45)), (q 51, .inl (E.2.1 0, 512, .inl a_least)), (q 55, .inl (E.2.1 0, 4, .inl f_58)), (q 54, .inl (E.2.1 0, 7, .inl u_47)), (q 53, .inl (E.2.1 0, 7, .inl (upd u_48 (Int32.toNatClampNeg 2) 2)))] := hD
    obtain ⟨f_60, ef_60⟩ : ∃ g : Nat → Int32, g = upd u_48 (Int32.toNatClampNeg 2) 2 := ⟨_, rfl⟩
    rw [← ef_60] at hP hD
    refine lv_aload_n hx hb dX12_give_184 rfl (lv_at hl 1 rfl) ?_
    refine va_get (D := E.1) (ci := 12) (v := .ref (q 55)) (C := RX12) (T := TX12) (N := 59) hx hb hts inX12 hown hK hP 0 rfl rfl 55 (by decide) fl142 (fun _ h9 => h9) rfl dX12_give_185 ?_
    refine lv_iload_n hx hb dX12_give_188 rfl (lv_at hl 0 rfl) ?_
    refine lv_dup2_11 hx hb dX12_give_189 rfl rfl ?_
    refine va_iald hx hb hK hP 2 0 rfl rfl (show vp_in 2 4 from by unfold vp_in; decide) dX12_give_190 ?_
    refine lv_topi (fun x_61 ex_61 => ?_)
    have hv_62 : inR x_61 0 127 = true := by rw [ex_61]; exact hI_59 _ (vin_cl (show vp_in 2 4 from by unfold vp_in; decide))
    obtain ⟨w_63, hw_64, ew_65⟩ := inR_nI (n := 127) (by decide) hv_62
    subst ew_65
    refine lv_iconst (v := 1) hx hb dX12_give_191 (by decide) ?_
    refine lv_iload_n hx hb dX12_give_192 rfl (lv_at hl 2 rfl) ?_
    refine lv_ishl hx hb dX12_give_193 ?_
    refine lv_topi (fun x_66 ex_66 => ?_)
    obtain rfl : x_66 = 4 := ex_66.trans (by decide +kernel)
    refine lv_ior hx hb dX12_give_194 ?_
    refine lv_topi (fun x_67 ex_67 => ?_)
    refine va_iast hx hb hK hP hD hS 2 0 rfl rfl (show vp_in 2 4 from by unfold vp_in; decide) dX12_give_195 (fun H locs hP hD hS => ?_)
    have hP : va_P E.1 vwCl [(h0, .inr (12, mG q i_taped i_size i_sort i_what i_at i_end i_worth i_faultKind i_faultPlace i_got i_worked (nI dl) i_isPlanned u_44 u_45)), (q 51, .inl (E.2.1 0, 512, .inl a_least)), (q 55, .inl (E.2.1 0, 4, .inl (upd f_58 (Int32.toNatClampNeg 2) x_67))), (q 54, .inl (E.2.1 0, 7, .inl u_47)), (q 53, .inl (E.2.1 0, 7, .inl f_60))] H := hP
    have hD : va_D A [(h0, .inr (12, mG q i_taped i_size i_sort i_what i_at i_end i_worth i_faultKind i_faultPlace i_got i_worked (nI dl) i_isPlanned u_44 u_45)), (q 51, .inl (E.2.1 0, 512, .inl a_least)), (q 55, .inl (E.2.1 0, 4, .inl (upd f_58 (Int32.toNatClampNeg 2) x_67))), (q 54, .inl (E.2.1 0, 7, .inl u_47)), (q 53, .inl (E.2.1 0, 7, .inl f_60))] := hD
    obtain ⟨f_68, ef_68⟩ : ∃ g : Nat → Int32, g = upd f_58 (Int32.toNatClampNeg 2) x_67 := ⟨_, rfl⟩
    rw [← ef_68] at hP hD
    have hI_69 : ∀ k : Nat, k < 4 → inR (f_68 k) 0 127 = true := by rw [ef_68]; exact all_upd (P := fun z => inR z 0 127 = true) hI_59 (by rw [ex_67]; exact or_lt7 _ (by omega) 2 (by decide))
    refine lv_aload_n hx hb dX12_give_196 rfl (lv_at hl 1 rfl) ?_
    refine lv_iload_n hx hb dX12_give_197 rfl (lv_at hl 2 rfl) ?_
    refine lv_iconst (v := 1) hx hb dX12_give_198 (by decide) ?_
    refine lv_iadd hx hb dX12_give_199 ?_
    refine lv_topi (fun x_70 ex_70 => ?_)
    obtain rfl : x_70 = 3 := ex_70.trans (by decide +kernel)
    have hPc := hP.sub (ws' := [(h0, .inr (12, mG q i_taped i_size i_sort i_what i_at i_end i_worth i_faultKind i_faultPlace i_got i_worked (nI dl) i_isPlanned u_44 u_45)), (q 51, .inl (E.2.1 0, 512, .inl a_least)), (q 55, .inl (E.2.1 0, 4, .inl f_68)), (q 54, .inl (E.2.1 0, 7, .inl u_47)), (q 53, .inl (E.2.1 0, 7, .inl f_60))]) [0, 1, 2, 3, 4] rfl
    have hDc := hD.sub (ws' := [(h0, .inr (12, mG q i_taped i_size i_sort i_what i_at i_end i_worth i_faultKind i_faultPlace i_got i_worked (nI dl) i_isPlanned u_44 u_45)), (q 51, .inl (E.2.1 0, 512, .inl a_least)), (q 55, .inl (E.2.1 0, 4, .inl f_68)), (q 54, .inl (E.2.1 0, 7, .inl u_47)), (q 53, .inl (E.2.1 0, 7, .inl f_60))]) [0, 1, 2, 3, 4] (by decide) rfl
    have hFc := va_free (wc := [(h0, .inr (12, mG q i_taped i_size i_sort i_what i_at i_end i_worth i_faultKind i_faultPlace i_got i_worked (nI dl) i_isPlanned u_44 u_45)), (q 51, .inl (E.2.1 0, 512, .inl a_least)), (q 55, .inl (E.2.1 0, 4, .inl f_68)), (q 54, .inl (E.2.1 0, 7, .inl u_47)), (q 53, .inl (E.2.1 0, 7, .inl f_60))]) hD hS hA [0, 1, 2, 3, 4] rfl
    refine va_callv (va_runV (As := [.int 3]) (rest := []) ⟨hx, hb, hml, hown, hts⟩ (c_X12_give3 l E h0 q i_taped i_size i_sort i_what i_at i_end i_worth i_faultKind i_faultPlace i_got i_worked i_isPlanned u_44 u_45 dl a_least f_68 u_47 f_60 H.size hdl hd2 hI_69) (cwV 1 hts gX12_give_X12_give rfl rfl rfl hdV_X12_give ⟨Nat.le_of_ble_eq_true rfl, Nat.le_of_ble_eq_true rfl⟩) ⟨pcW_blind, va_recv hK hPc (ci := 12) (q0 := 0) rfl rfl, (pcW_pre hPc hkn hDc hst hS hFc)⟩ rfl rfl hl.1 rfl (lv_room (Nat.le_of_ble_eq_true rfl)) dX12_give_200 ⟨Nat.le_of_ble_eq_true rfl, Nat.le_of_ble_eq_true rfl⟩) hS (fun q _ h => hFc q h) hFc (fun u t H1 locs ht hvm hw_72 hB hz1 hk1 hS => ?_)
    obtain ⟨u_73, u_74, u_75, u_76, u_77⟩ := u
    obtain ⟨hf_78, hP1, hD1⟩ := hB
    rw [ht] at hP1
    try dsimp only at hw_72
    obtain ⟨hP, hD⟩ := va_join (wr := []) (w1 := [(h0, .inr (12, mG q i_taped i_size i_sort i_what i_at i_end i_worth i_faultKind i_faultPlace i_got i_worked (nI dl) i_isPlanned u_73 u_74)), (q 51, .inl (E.2.1 0, 512, .inl a_least)), (q 55, .inl (E.2.1 0, 4, .inl u_75)), (q 54, .inl (E.2.1 0, 7, .inl u_76)), (q 53, .inl (E.2.1 0, 7, .inl u_77))]) hP hD [0, 1, 2, 3, 4] [] rfl rfl (by decide) (by decide) hk1 hFc hP1 hD1
    generalize H1 = H at hP hS ⊢
    have hP : va_P E.1 vwCl [(h0, .inr (12, mG q i_taped i_size i_sort i_what i_at i_end i_worth i_faultKind i_faultPlace i_got i_worked (nI dl) i_isPlanned u_73 u_74)), (q 51, .inl (E.2.1 0, 512, .inl a_least)), (q 55, .inl (E.2.1 0, 4, .inl u_75)), (q 54, .inl (E.2.1 0, 7, .inl u_76)), (q 53, .inl (E.2.1 0, 7, .inl u_77))] H := hP
    have hD : va_D A [(h0, .inr (12, mG q i_taped i_size i_sort i_what i_at i_end i_worth i_faultKind i_faultPlace i_got i_worked (nI dl) i_isPlanned u_73 u_74)), (q 51, .inl (E.2.1 0, 512, .inl a_least)), (q 55, .inl (E.2.1 0, 4, .inl u_75)), (q 54, .inl (E.2.1 0, 7, .inl u_76)), (q 53, .inl (E.2.1 0, 7, .inl u_77))] := hD
    refine lv_aload_n hx hb dX12_give_203 rfl (lv_at hl 1 rfl) ?_
    refine va_get (D := E.1) (ci := 12) (v := .ref (q 55)) (C := RX12) (T := TX12) (N := 59) hx hb hts inX12 hown hK hP 0 rfl rfl 55 (by decide) fl142 (fun _ h9 => h9) rfl dX12_give_204 ?_
    refine lv_iload_n hx hb dX12_give_207 rfl (lv_at hl 0 rfl) ?_
    refine lv_dup2_11 hx hb dX12_give_208 rfl rfl ?_
    refine va_iald hx hb hK hP 2 0 rfl rfl (show vp_in 2 4 from by unfold vp_in; decide) dX12_give_209 ?_
    refine lv_topi (fun x_79 ex_79 => ?_)
    have hv_80 : inR x_79 0 127 = true := by rw [ex_79]; exact hf_78 _ (vin_cl (show vp_in 2 4 from by unfold vp_in; decide))
    obtain ⟨w_81, hw_82, ew_83⟩ := inR_nI (n := 127) (by decide) hv_80
    subst ew_83
    refine lv_iconst (v := 1) hx hb dX12_give_210 (by decide) ?_
    refine lv_iload_n hx hb dX12_give_211 rfl (lv_at hl 2 rfl) ?_
    refine lv_ishl hx hb dX12_give_212 ?_
    refine lv_topi (fun x_84 ex_84 => ?_)
    obtain rfl : x_84 = 4 := ex_84.trans (by decide +kernel)
    refine lv_iconst (v := (-1)) hx hb dX12_give_213 (by decide) ?_
    refine lv_ixor hx hb dX12_give_214 ?_
    refine lv_topi (fun x_85 ex_85 => ?_)
    obtain rfl : x_85 = (-5) := ex_85.trans (by decide +kernel)
    refine lv_iand hx hb dX12_give_215 ?_
    refine lv_topi (fun x_86 ex_86 => ?_)
    refine va_iast hx hb hK hP hD hS 2 0 rfl rfl (show vp_in 2 4 from by unfold vp_in; decide) dX12_give_216 (fun H locs hP hD hS => ?_)
    have hP : va_P E.1 vwCl [(h0, .inr (12, mG q i_taped i_size i_sort i_what i_at i_end i_worth i_faultKind i_faultPlace i_got i_worked (nI dl) i_isPlanned u_73 u_74)), (q 51, .inl (E.2.1 0, 512, .inl a_least)), (q 55, .inl (E.2.1 0, 4, .inl (upd u_75 (Int32.toNatClampNeg 2) x_86))), (q 54, .inl (E.2.1 0, 7, .inl u_76)), (q 53, .inl (E.2.1 0, 7, .inl u_77))] H := hP
    have hD : va_D A [(h0, .inr (12, mG q i_taped i_size i_sort i_what i_at i_end i_worth i_faultKind i_faultPlace i_got i_worked (nI dl) i_isPlanned u_73 u_74)), (q 51, .inl (E.2.1 0, 512, .inl a_least)), (q 55, .inl (E.2.1 0, 4, .inl (upd u_75 (Int32.toNatClampNeg 2) x_86))), (q 54, .inl (E.2.1 0, 7, .inl u_76)), (q 53, .inl (E.2.1 0, 7, .inl u_77))] := hD
    obtain ⟨f_87, ef_87⟩ : ∃ g : Nat → Int32, g = upd u_75 (Int32.toNatClampNeg 2) x_86 := ⟨_, rfl⟩
    rw [← ef_87] at hP hD
    have hI_88 : ∀ k : Nat, k < 4 → inR (f_87 k) 0 127 = true := by rw [ef_87]; exact all_upd (P := fun z => inR z 0 127 = true) hf_78 (by rw [ex_86]; exact and_lt7 _ (by omega) 2 (by decide))
    refine lv_iinc (v := 3) (lv' := [(2, .int 3), (0, .ref h0), (1, .int 2)]) hx hb dX12_give_217 hl (k := 0) rfl (by decide) (by decide) rfl (fun ls hl => ?_)
    refine lv_goto (tgt := 172) hx hb dX12_give_220 (by decide) ?_
    refine lv_iload_n hx hb dX12_give_172 rfl (lv_at hl 0 rfl) ?_
    refine lv_iconst (v := 4) hx hb dX12_give_173 (by decide) ?_
    refine lv_icmp_ge (tgt := 223) hx hb dX12_give_174 (by decide) (fun c9 => absurd c9 (by decide)) (fun _ => ?_)
    refine lv_aload_n hx hb dX12_give_177 rfl (lv_at hl 1 rfl) ?_
    refine va_get (D := E.1) (ci := 12) (v := .ref (q 53)) (C := RX12) (T := TX12) (N := 59) hx hb hts inX12 hown hK hP 0 rfl rfl 53 (by decide) fl136 (fun _ h9 => h9) rfl dX12_give_178 ?_
    refine lv_iload_n hx hb dX12_give_181 rfl (lv_at hl 2 rfl) ?_
    refine lv_iload_n hx hb dX12_give_182 rfl (lv_at hl 0 rfl) ?_
    refine va_iast hx hb hK hP hD hS 4 0 rfl rfl (show vp_in 2 7 from by unfold vp_in; decide) dX12_give_183 (fun H locs hP hD hS => ?_)
    have hP : va_P E.1 vwCl [(h0, .inr (12, mG q i_taped i_size i_sort i_what i_at i_end i_worth i_faultKind i_faultPlace i_got i_worked (nI dl) i_isPlanned u_73 u_74)), (q 51, .inl (E.2.1 0, 512, .inl a_least)), (q 55, .inl (E.2.1 0, 4, .inl f_87)), (q 54, .inl (E.2.1 0, 7, .inl u_76)), (q 53, .inl (E.2.1 0, 7, .inl (upd u_77 (Int32.toNatClampNeg 2) 3)))] H := hP
    have hD : va_D A [(h0, .inr (12, mG q i_taped i_size i_sort i_what i_at i_end i_worth i_faultKind i_faultPlace i_got i_worked (nI dl) i_isPlanned u_73 u_74)), (q 51, .inl (E.2.1 0, 512, .inl a_least)), (q 55, .inl (E.2.1 0, 4, .inl f_87)), (q 54, .inl (E.2.1 0, 7, .inl u_76)), (q 53, .inl (E.2.1 0, 7, .inl (upd u_77 (Int32.toNatClampNeg 2) 3)))] := hD
    obtain ⟨f_89, ef_89⟩ : ∃ g : Nat → Int32, g = upd u_77 (Int32.toNatClampNeg 2) 3 := ⟨_, rfl⟩
    rw [← ef_89] at hP hD
    refine lv_aload_n hx hb dX12_give_184 rfl (lv_at hl 1 rfl) ?_
    refine va_get (D := E.1) (ci := 12) (v := .ref (q 55)) (C := RX12) (T := TX12) (N := 59) hx hb hts inX12 hown hK hP 0 rfl rfl 55 (by decide) fl142 (fun _ h9 => h9) rfl dX12_give_185 ?_
    refine lv_iload_n hx hb dX12_give_188 rfl (lv_at hl 0 rfl) ?_
    refine lv_dup2_11 hx hb dX12_give_189 rfl rfl ?_
    refine va_iald hx hb hK hP 2 0 rfl rfl (show vp_in 3 4 from by unfold vp_in; decide) dX12_give_190 ?_
    refine lv_topi (fun x_90 ex_90 => ?_)
    have hv_91 : inR x_90 0 127 = true := by rw [ex_90]; exact hI_88 _ (vin_cl (show vp_in 3 4 from by unfold vp_in; decide))
    obtain ⟨w_92, hw_93, ew_94⟩ := inR_nI (n := 127) (by decide) hv_91
    subst ew_94
    refine lv_iconst (v := 1) hx hb dX12_give_191 (by decide) ?_
    refine lv_iload_n hx hb dX12_give_192 rfl (lv_at hl 2 rfl) ?_
    refine lv_ishl hx hb dX12_give_193 ?_
    refine lv_topi (fun x_95 ex_95 => ?_)
    obtain rfl : x_95 = 4 := ex_95.trans (by decide +kernel)
    refine lv_ior hx hb dX12_give_194 ?_
    refine lv_topi (fun x_96 ex_96 => ?_)
    refine va_iast hx hb hK hP hD hS 2 0 rfl rfl (show vp_in 3 4 from by unfold vp_in; decide) dX12_give_195 (fun H locs hP hD hS => ?_)
    have hP : va_P E.1 vwCl [(h0, .inr (12, mG q i_taped i_size i_sort i_what i_at i_end i_worth i_faultKind i_faultPlace i_got i_worked (nI dl) i_isPlanned u_73 u_74)), (q 51, .inl (E.2.1 0, 512, .inl a_least)), (q 55, .inl (E.2.1 0, 4, .inl (upd f_87 (Int32.toNatClampNeg 3) x_96))), (q 54, .inl (E.2.1 0, 7, .inl u_76)), (q 53, .inl (E.2.1 0, 7, .inl f_89))] H := hP
    have hD : va_D A [(h0, .inr (12, mG q i_taped i_size i_sort i_what i_at i_end i_worth i_faultKind i_faultPlace i_got i_worked (nI dl) i_isPlanned u_73 u_74)), (q 51, .inl (E.2.1 0, 512, .inl a_least)), (q 55, .inl (E.2.1 0, 4, .inl (upd f_87 (Int32.toNatClampNeg 3) x_96))), (q 54, .inl (E.2.1 0, 7, .inl u_76)), (q 53, .inl (E.2.1 0, 7, .inl f_89))] := hD
    obtain ⟨f_97, ef_97⟩ : ∃ g : Nat → Int32, g = upd f_87 (Int32.toNatClampNeg 3) x_96 := ⟨_, rfl⟩
    rw [← ef_97] at hP hD
    have hI_98 : ∀ k : Nat, k < 4 → inR (f_97 k) 0 127 = true := by rw [ef_97]; exact all_upd (P := fun z => inR z 0 127 = true) hI_88 (by rw [ex_96]; exact or_lt7 _ (by omega) 2 (by decide))
    refine lv_aload_n hx hb dX12_give_196 rfl (lv_at hl 1 rfl) ?_
    refine lv_iload_n hx hb dX12_give_197 rfl (lv_at hl 2 rfl) ?_
    refine lv_iconst (v := 1) hx hb dX12_give_198 (by decide) ?_
    refine lv_iadd hx hb dX12_give_199 ?_
    refine lv_topi (fun x_99 ex_99 => ?_)
    obtain rfl : x_99 = 3 := ex_99.trans (by decide +kernel)
    have hPc := hP.sub (ws' := [(h0, .inr (12, mG q i_taped i_size i_sort i_what i_at i_end i_worth i_faultKind i_faultPlace i_got i_worked (nI dl) i_isPlanned u_73 u_74)), (q 51, .inl (E.2.1 0, 512, .inl a_least)), (q 55, .inl (E.2.1 0, 4, .inl f_97)), (q 54, .inl (E.2.1 0, 7, .inl u_76)), (q 53, .inl (E.2.1 0, 7, .inl f_89))]) [0, 1, 2, 3, 4] rfl
    have hDc := hD.sub (ws' := [(h0, .inr (12, mG q i_taped i_size i_sort i_what i_at i_end i_worth i_faultKind i_faultPlace i_got i_worked (nI dl) i_isPlanned u_73 u_74)), (q 51, .inl (E.2.1 0, 512, .inl a_least)), (q 55, .inl (E.2.1 0, 4, .inl f_97)), (q 54, .inl (E.2.1 0, 7, .inl u_76)), (q 53, .inl (E.2.1 0, 7, .inl f_89))]) [0, 1, 2, 3, 4] (by decide) rfl
    have hFc := va_free (wc := [(h0, .inr (12, mG q i_taped i_size i_sort i_what i_at i_end i_worth i_faultKind i_faultPlace i_got i_worked (nI dl) i_isPlanned u_73 u_74)), (q 51, .inl (E.2.1 0, 512, .inl a_least)), (q 55, .inl (E.2.1 0, 4, .inl f_97)), (q 54, .inl (E.2.1 0, 7, .inl u_76)), (q 53, .inl (E.2.1 0, 7, .inl f_89))]) hD hS hA [0, 1, 2, 3, 4] rfl
    refine va_callv (va_runV (As := [.int 3]) (rest := []) ⟨hx, hb, hml, hown, hts⟩ (c_X12_give3 l E h0 q i_taped i_size i_sort i_what i_at i_end i_worth i_faultKind i_faultPlace i_got i_worked i_isPlanned u_73 u_74 dl a_least f_97 u_76 f_89 H.size hdl hd2 hI_98) (cwV 1 hts gX12_give_X12_give rfl rfl rfl hdV_X12_give ⟨Nat.le_of_ble_eq_true rfl, Nat.le_of_ble_eq_true rfl⟩) ⟨pcW_blind, va_recv hK hPc (ci := 12) (q0 := 0) rfl rfl, (pcW_pre hPc hkn hDc hst hS hFc)⟩ rfl rfl hl.1 rfl (lv_room (Nat.le_of_ble_eq_true rfl)) dX12_give_200 ⟨Nat.le_of_ble_eq_true rfl, Nat.le_of_ble_eq_true rfl⟩) hS (fun q _ h => hFc q h) hFc (fun u t H1 locs ht hvm hw_101 hB hz1 hk1 hS => ?_)
    obtain ⟨u_102, u_103, u_104, u_105, u_106⟩ := u
    obtain ⟨hf_107, hP1, hD1⟩ := hB
    rw [ht] at hP1
    try dsimp only at hw_101
    obtain ⟨hP, hD⟩ := va_join (wr := []) (w1 := [(h0, .inr (12, mG q i_taped i_size i_sort i_what i_at i_end i_worth i_faultKind i_faultPlace i_got i_worked (nI dl) i_isPlanned u_102 u_103)), (q 51, .inl (E.2.1 0, 512, .inl a_least)), (q 55, .inl (E.2.1 0, 4, .inl u_104)), (q 54, .inl (E.2.1 0, 7, .inl u_105)), (q 53, .inl (E.2.1 0, 7, .inl u_106))]) hP hD [0, 1, 2, 3, 4] [] rfl rfl (by decide) (by decide) hk1 hFc hP1 hD1
    generalize H1 = H at hP hS ⊢
    have hP : va_P E.1 vwCl [(h0, .inr (12, mG q i_taped i_size i_sort i_what i_at i_end i_worth i_faultKind i_faultPlace i_got i_worked (nI dl) i_isPlanned u_102 u_103)), (q 51, .inl (E.2.1 0, 512, .inl a_least)), (q 55, .inl (E.2.1 0, 4, .inl u_104)), (q 54, .inl (E.2.1 0, 7, .inl u_105)), (q 53, .inl (E.2.1 0, 7, .inl u_106))] H := hP
    have hD : va_D A [(h0, .inr (12, mG q i_taped i_size i_sort i_what i_at i_end i_worth i_faultKind i_faultPlace i_got i_worked (nI dl) i_isPlanned u_102 u_103)), (q 51, .inl (E.2.1 0, 512, .inl a_least)), (q 55, .inl (E.2.1 0, 4, .inl u_104)), (q 54, .inl (E.2.1 0, 7, .inl u_105)), (q 53, .inl (E.2.1 0, 7, .inl u_106))] := hD
    refine lv_aload_n hx hb dX12_give_203 rfl (lv_at hl 1 rfl) ?_
    refine va_get (D := E.1) (ci := 12) (v := .ref (q 55)) (C := RX12) (T := TX12) (N := 59) hx hb hts inX12 hown hK hP 0 rfl rfl 55 (by decide) fl142 (fun _ h9 => h9) rfl dX12_give_204 ?_
    refine lv_iload_n hx hb dX12_give_207 rfl (lv_at hl 0 rfl) ?_
    refine lv_dup2_11 hx hb dX12_give_208 rfl rfl ?_
    refine va_iald hx hb hK hP 2 0 rfl rfl (show vp_in 3 4 from by unfold vp_in; decide) dX12_give_209 ?_
    refine lv_topi (fun x_108 ex_108 => ?_)
    have hv_109 : inR x_108 0 127 = true := by rw [ex_108]; exact hf_107 _ (vin_cl (show vp_in 3 4 from by unfold vp_in; decide))
    obtain ⟨w_110, hw_111, ew_112⟩ := inR_nI (n := 127) (by decide) hv_109
    subst ew_112
    refine lv_iconst (v := 1) hx hb dX12_give_210 (by decide) ?_
    refine lv_iload_n hx hb dX12_give_211 rfl (lv_at hl 2 rfl) ?_
    refine lv_ishl hx hb dX12_give_212 ?_
    refine lv_topi (fun x_113 ex_113 => ?_)
    obtain rfl : x_113 = 4 := ex_113.trans (by decide +kernel)
    refine lv_iconst (v := (-1)) hx hb dX12_give_213 (by decide) ?_
    refine lv_ixor hx hb dX12_give_214 ?_
    refine lv_topi (fun x_114 ex_114 => ?_)
    obtain rfl : x_114 = (-5) := ex_114.trans (by decide +kernel)
    refine lv_iand hx hb dX12_give_215 ?_
    refine lv_topi (fun x_115 ex_115 => ?_)
    refine va_iast hx hb hK hP hD hS 2 0 rfl rfl (show vp_in 3 4 from by unfold vp_in; decide) dX12_give_216 (fun H locs hP hD hS => ?_)
    have hP : va_P E.1 vwCl [(h0, .inr (12, mG q i_taped i_size i_sort i_what i_at i_end i_worth i_faultKind i_faultPlace i_got i_worked (nI dl) i_isPlanned u_102 u_103)), (q 51, .inl (E.2.1 0, 512, .inl a_least)), (q 55, .inl (E.2.1 0, 4, .inl (upd u_104 (Int32.toNatClampNeg 3) x_115))), (q 54, .inl (E.2.1 0, 7, .inl u_105)), (q 53, .inl (E.2.1 0, 7, .inl u_106))] H := hP
    have hD : va_D A [(h0, .inr (12, mG q i_taped i_size i_sort i_what i_at i_end i_worth i_faultKind i_faultPlace i_got i_worked (nI dl) i_isPlanned u_102 u_103)), (q 51, .inl (E.2.1 0, 512, .inl a_least)), (q 55, .inl (E.2.1 0, 4, .inl (upd u_104 (Int32.toNatClampNeg 3) x_115))), (q 54, .inl (E.2.1 0, 7, .inl u_105)), (q 53, .inl (E.2.1 0, 7, .inl u_106))] := hD
    obtain ⟨f_116, ef_116⟩ : ∃ g : Nat → Int32, g = upd u_104 (Int32.toNatClampNeg 3) x_115 := ⟨_, rfl⟩
    rw [← ef_116] at hP hD
    have hI_117 : ∀ k : Nat, k < 4 → inR (f_116 k) 0 127 = true := by rw [ef_116]; exact all_upd (P := fun z => inR z 0 127 = true) hf_107 (by rw [ex_115]; exact and_lt7 _ (by omega) 2 (by decide))
    refine lv_iinc (v := 4) (lv' := [(2, .int 4), (0, .ref h0), (1, .int 2)]) hx hb dX12_give_217 hl (k := 0) rfl (by decide) (by decide) rfl (fun ls hl => ?_)
    refine lv_goto (tgt := 172) hx hb dX12_give_220 (by decide) ?_
    refine lv_iload_n hx hb dX12_give_172 rfl (lv_at hl 0 rfl) ?_
    refine lv_iconst (v := 4) hx hb dX12_give_173 (by decide) ?_
    refine lv_icmp_ge (tgt := 223) hx hb dX12_give_174 (by decide) (fun _ => ?_) (fun c9 => absurd c9 (by decide))
    refine lv_aload_n hx hb dX12_give_223 rfl (lv_at hl 1 rfl) ?_
    refine va_get (D := E.1) (ci := 12) (v := .ref (q 53)) (C := RX12) (T := TX12) (N := 59) hx hb hts inX12 hown hK hP 0 rfl rfl 53 (by decide) fl136 (fun _ h9 => h9) rfl dX12_give_224 ?_
    refine lv_iload_n hx hb dX12_give_227 rfl (lv_at hl 2 rfl) ?_
    refine lv_iconst (v := (-1)) hx hb dX12_give_228 (by decide) ?_
    refine va_iast hx hb hK hP hD hS 4 0 rfl rfl (show vp_in 2 7 from by unfold vp_in; decide) dX12_give_229 (fun H locs hP hD hS => ?_)
    have hP : va_P E.1 vwCl [(h0, .inr (12, mG q i_taped i_size i_sort i_what i_at i_end i_worth i_faultKind i_faultPlace i_got i_worked (nI dl) i_isPlanned u_102 u_103)), (q 51, .inl (E.2.1 0, 512, .inl a_least)), (q 55, .inl (E.2.1 0, 4, .inl f_116)), (q 54, .inl (E.2.1 0, 7, .inl u_105)), (q 53, .inl (E.2.1 0, 7, .inl (upd u_106 (Int32.toNatClampNeg 2) (-1))))] H := hP
    have hD : va_D A [(h0, .inr (12, mG q i_taped i_size i_sort i_what i_at i_end i_worth i_faultKind i_faultPlace i_got i_worked (nI dl) i_isPlanned u_102 u_103)), (q 51, .inl (E.2.1 0, 512, .inl a_least)), (q 55, .inl (E.2.1 0, 4, .inl f_116)), (q 54, .inl (E.2.1 0, 7, .inl u_105)), (q 53, .inl (E.2.1 0, 7, .inl (upd u_106 (Int32.toNatClampNeg 2) (-1))))] := hD
    obtain ⟨f_118, ef_118⟩ : ∃ g : Nat → Int32, g = upd u_106 (Int32.toNatClampNeg 2) (-1) := ⟨_, rfl⟩
    rw [← ef_118] at hP hD
    refine lv_aload_n hx hb dX12_give_230 rfl (lv_at hl 1 rfl) ?_
    refine lv_iload_n hx hb dX12_give_231 rfl (lv_at hl 2 rfl) ?_
    refine lv_iconst (v := 1) hx hb dX12_give_232 (by decide) ?_
    refine lv_iadd hx hb dX12_give_233 ?_
    refine lv_topi (fun x_119 ex_119 => ?_)
    obtain rfl : x_119 = 3 := ex_119.trans (by decide +kernel)
    have hPc := hP.sub (ws' := [(h0, .inr (12, mG q i_taped i_size i_sort i_what i_at i_end i_worth i_faultKind i_faultPlace i_got i_worked (nI dl) i_isPlanned u_102 u_103)), (q 51, .inl (E.2.1 0, 512, .inl a_least)), (q 55, .inl (E.2.1 0, 4, .inl f_116)), (q 54, .inl (E.2.1 0, 7, .inl u_105)), (q 53, .inl (E.2.1 0, 7, .inl f_118))]) [0, 1, 2, 3, 4] rfl
    have hDc := hD.sub (ws' := [(h0, .inr (12, mG q i_taped i_size i_sort i_what i_at i_end i_worth i_faultKind i_faultPlace i_got i_worked (nI dl) i_isPlanned u_102 u_103)), (q 51, .inl (E.2.1 0, 512, .inl a_least)), (q 55, .inl (E.2.1 0, 4, .inl f_116)), (q 54, .inl (E.2.1 0, 7, .inl u_105)), (q 53, .inl (E.2.1 0, 7, .inl f_118))]) [0, 1, 2, 3, 4] (by decide) rfl
    have hFc := va_free (wc := [(h0, .inr (12, mG q i_taped i_size i_sort i_what i_at i_end i_worth i_faultKind i_faultPlace i_got i_worked (nI dl) i_isPlanned u_102 u_103)), (q 51, .inl (E.2.1 0, 512, .inl a_least)), (q 55, .inl (E.2.1 0, 4, .inl f_116)), (q 54, .inl (E.2.1 0, 7, .inl u_105)), (q 53, .inl (E.2.1 0, 7, .inl f_118))]) hD hS hA [0, 1, 2, 3, 4] rfl
    refine va_callv (va_runV (As := [.int 3]) (rest := []) ⟨hx, hb, hml, hown, hts⟩ (c_X12_give3 l E h0 q i_taped i_size i_sort i_what i_at i_end i_worth i_faultKind i_faultPlace i_got i_worked i_isPlanned u_102 u_103 dl a_least f_116 u_105 f_118 H.size hdl hd2 hI_117) (cwV 1 hts gX12_give_X12_give rfl rfl rfl hdV_X12_give ⟨Nat.le_of_ble_eq_true rfl, Nat.le_of_ble_eq_true rfl⟩) ⟨pcW_blind, va_recv hK hPc (ci := 12) (q0 := 0) rfl rfl, (pcW_pre hPc hkn hDc hst hS hFc)⟩ rfl rfl hl.1 rfl (lv_room (Nat.le_of_ble_eq_true rfl)) dX12_give_234 ⟨Nat.le_of_ble_eq_true rfl, Nat.le_of_ble_eq_true rfl⟩) hS (fun q _ h => hFc q h) hFc (fun u t H1 locs ht hvm hw_121 hB hz1 hk1 hS => ?_)
    obtain ⟨u_122, u_123, u_124, u_125, u_126⟩ := u
    obtain ⟨hf_127, hP1, hD1⟩ := hB
    rw [ht] at hP1
    try dsimp only at hw_121
    obtain ⟨hP, hD⟩ := va_join (wr := []) (w1 := [(h0, .inr (12, mG q i_taped i_size i_sort i_what i_at i_end i_worth i_faultKind i_faultPlace i_got i_worked (nI dl) i_isPlanned u_122 u_123)), (q 51, .inl (E.2.1 0, 512, .inl a_least)), (q 55, .inl (E.2.1 0, 4, .inl u_124)), (q 54, .inl (E.2.1 0, 7, .inl u_125)), (q 53, .inl (E.2.1 0, 7, .inl u_126))]) hP hD [0, 1, 2, 3, 4] [] rfl rfl (by decide) (by decide) hk1 hFc hP1 hD1
    generalize H1 = H at hP hS ⊢
    have hP : va_P E.1 vwCl [(h0, .inr (12, mG q i_taped i_size i_sort i_what i_at i_end i_worth i_faultKind i_faultPlace i_got i_worked (nI dl) i_isPlanned u_122 u_123)), (q 51, .inl (E.2.1 0, 512, .inl a_least)), (q 55, .inl (E.2.1 0, 4, .inl u_124)), (q 54, .inl (E.2.1 0, 7, .inl u_125)), (q 53, .inl (E.2.1 0, 7, .inl u_126))] H := hP
    have hD : va_D A [(h0, .inr (12, mG q i_taped i_size i_sort i_what i_at i_end i_worth i_faultKind i_faultPlace i_got i_worked (nI dl) i_isPlanned u_122 u_123)), (q 51, .inl (E.2.1 0, 512, .inl a_least)), (q 55, .inl (E.2.1 0, 4, .inl u_124)), (q 54, .inl (E.2.1 0, 7, .inl u_125)), (q 53, .inl (E.2.1 0, 7, .inl u_126))] := hD
    have hP9 := hP.sub (ws' := [(h0, .inr (12, mG q i_taped i_size i_sort i_what i_at i_end i_worth i_faultKind i_faultPlace i_got i_worked (nI dl) i_isPlanned u_122 u_123)), (q 51, .inl (E.2.1 0, 512, .inl a_least)), (q 55, .inl (E.2.1 0, 4, .inl u_124)), (q 54, .inl (E.2.1 0, 7, .inl u_125)), (q 53, .inl (E.2.1 0, 7, .inl u_126))]) [0, 1, 2, 3, 4] rfl
    have hD9 := hD.sub (ws' := [(h0, .inr (12, mG q i_taped i_size i_sort i_what i_at i_end i_worth i_faultKind i_faultPlace i_got i_worked (nI dl) i_isPlanned u_122 u_123)), (q 51, .inl (E.2.1 0, 512, .inl a_least)), (q 55, .inl (E.2.1 0, 4, .inl u_124)), (q 54, .inl (E.2.1 0, 7, .inl u_125)), (q 53, .inl (E.2.1 0, 7, .inl u_126))]) [0, 1, 2, 3, 4] (by decide) rfl
    exact W.vret hx hb hr (fun t ht hW => ⟨⟨(u_122, u_123, u_124, u_125, u_126), rfl, trivial, hf_127, by rw [ht]; exact hP9, hD9⟩, hS.F ht⟩) hS.2.2 dX12_give_237
  · refine lv_iconst (v := 0) hx hb dX12_give_8 (by decide) ?_
    refine lv_istore_n (lv' := [(2, .int 0), (0, .ref h0), (1, .int 2)]) hx hb dX12_give_9 rfl hl (by decide) rfl (fun ls hl => ?_)
    refine lv_iconst (v := 0) hx hb dX12_give_10 (by decide) ?_
    refine lv_istore_n (lv' := [(3, .int 0), (2, .int 0), (0, .ref h0), (1, .int 2)]) hx hb dX12_give_11 rfl hl (by decide) rfl (fun ls hl => ?_)
    refine lv_iconst (v := 0) hx hb dX12_give_12 (by decide) ?_
    refine lv_istore (lv' := [(4, .int 0), (3, .int 0), (2, .int 0), (0, .ref h0), (1, .int 2)]) hx hb dX12_give_13 hl (by decide) rfl (fun ls hl => ?_)
    refine lv_iload hx hb dX12_give_15 (lv_at hl 0 rfl) ?_
    refine lv_iconst (v := 4) hx hb dX12_give_17 (by decide) ?_
    refine lv_icmp_ge (tgt := 102) hx hb dX12_give_18 (by decide) (fun c9 => absurd c9 (by decide)) (fun _ => ?_)
    refine lv_aload_n hx hb dX12_give_21 rfl (lv_at hl 3 rfl) ?_
    refine va_get (D := E.1) (ci := 12) (v := .ref (q 51)) (C := RX12) (T := TX12) (N := 59) hx hb hts inX12 hown hK hP 0 rfl rfl 51 (by decide) fl130 (fun _ h9 => h9) rfl dX12_give_22 ?_
    refine lv_sipush (v := 128) hx hb dX12_give_25 (by decide) ?_
    refine lv_iload hx hb dX12_give_28 (lv_at hl 0 rfl) ?_
    refine lv_imul hx hb dX12_give_30 ?_
    refine lv_topi (fun x_128 ex_128 => ?_)
    obtain rfl : x_128 = 0 := ex_128.trans (by decide +kernel)
    refine lv_aload_n hx hb dX12_give_31 rfl (lv_at hl 3 rfl) ?_
    refine va_get (D := E.1) (ci := 12) (v := .ref (q 55)) (C := RX12) (T := TX12) (N := 59) hx hb hts inX12 hown hK hP 0 rfl rfl 55 (by decide) fl142 (fun _ h9 => h9) rfl dX12_give_32 ?_
    refine lv_iload hx hb dX12_give_35 (lv_at hl 0 rfl) ?_
    refine va_iald hx hb hK hP 2 0 rfl rfl (show vp_in 0 4 from by unfold vp_in; decide) dX12_give_37 ?_
    refine lv_topi (fun x_129 ex_129 => ?_)
    have hv_130 : inR x_129 0 127 = true := by rw [ex_129]; exact hI_sets _ (vin_cl (show vp_in 0 4 from by unfold vp_in; decide))
    obtain ⟨w_131, hw_132, ew_133⟩ := inR_nI (n := 127) (by decide) hv_130
    subst ew_133
    refine lv_iadd hx hb dX12_give_38 ?_
    refine lv_topi (fun x_134 ex_134 => ?_)
    obtain rfl : x_134 = nI (0 + w_131) := ex_134.trans (nI_add 0 w_131)
    have hi_135 : vp_in (nI (0 + w_131)) 512 := vp_in_nI (by omega) (by decide)
    refine va_iald hx hb hK hP 1 0 rfl rfl hi_135 dX12_give_39 ?_
    refine lv_topi (fun x_136 ex_136 => ?_)
    refine lv_iconst (v := (-1)) hx hb dX12_give_40 (by decide) ?_
    refine lv_icmp_ne (tgt := 45) hx hb dX12_give_41 (by decide) (fun c_137 => ?_) (fun c_137 => ?_)
    · refine lv_iload_n hx hb dX12_give_45 rfl (lv_at hl 1 rfl) ?_
      refine lv_aload_n hx hb dX12_give_46 rfl (lv_at hl 3 rfl) ?_
      refine va_get (D := E.1) (ci := 12) (v := .ref (q 51)) (C := RX12) (T := TX12) (N := 59) hx hb hts inX12 hown hK hP 0 rfl rfl 51 (by decide) fl130 (fun _ h9 => h9) rfl dX12_give_47 ?_
      refine lv_sipush (v := 128) hx hb dX12_give_50 (by decide) ?_
      refine lv_iload hx hb dX12_give_53 (lv_at hl 0 rfl) ?_
      refine lv_imul hx hb dX12_give_55 ?_
      refine lv_topi (fun x_138 ex_138 => ?_)
      obtain rfl : x_138 = 0 := ex_138.trans (by decide +kernel)
      refine lv_aload_n hx hb dX12_give_56 rfl (lv_at hl 3 rfl) ?_
      refine va_get (D := E.1) (ci := 12) (v := .ref (q 55)) (C := RX12) (T := TX12) (N := 59) hx hb hts inX12 hown hK hP 0 rfl rfl 55 (by decide) fl142 (fun _ h9 => h9) rfl dX12_give_57 ?_
      refine lv_iload hx hb dX12_give_60 (lv_at hl 0 rfl) ?_
      refine va_iald hx hb hK hP 2 0 rfl rfl (show vp_in 0 4 from by unfold vp_in; decide) dX12_give_62 ?_
      refine lv_topi (fun x_139 ex_139 => ?_)
      obtain rfl : x_139 = nI w_131 := ex_139.trans ex_129.symm
      refine lv_iadd hx hb dX12_give_63 ?_
      refine lv_topi (fun x_140 ex_140 => ?_)
      obtain rfl : x_140 = nI (0 + w_131) := ex_140.trans (nI_add 0 w_131)
      refine va_iald hx hb hK hP 1 0 rfl rfl hi_135 dX12_give_64 ?_
      refine lv_topi (fun x_141 ex_141 => ?_)
      refine lv_iadd hx hb dX12_give_65 ?_
      refine lv_topi (fun x_142 ex_142 => ?_)
      refine lv_istore_n (lv' := [(3, .int x_142), (4, .int 0), (2, .int 0), (0, .ref h0), (1, .int 2)]) hx hb dX12_give_66 rfl hl (by decide) rfl (fun ls hl => ?_)
      refine lv_aload_n hx hb dX12_give_67 rfl (lv_at hl 3 rfl) ?_
      refine va_get (D := E.1) (ci := 12) (v := .ref (q 55)) (C := RX12) (T := TX12) (N := 59) hx hb hts inX12 hown hK hP 0 rfl rfl 55 (by decide) fl142 (fun _ h9 => h9) rfl dX12_give_68 ?_
      refine lv_iload hx hb dX12_give_71 (lv_at hl 1 rfl) ?_
      refine va_iald hx hb hK hP 2 0 rfl rfl (show vp_in 0 4 from by unfold vp_in; decide) dX12_give_73 ?_
      refine lv_topi (fun x_143 ex_143 => ?_)
      obtain rfl : x_143 = nI w_131 := ex_143.trans ex_129.symm
      refine lv_istore (lv' := [(5, .int (nI w_131)), (3, .int x_142), (4, .int 0), (2, .int 0), (0, .ref h0), (1, .int 2)]) hx hb dX12_give_74 hl (by decide) rfl (fun ls hl => ?_)
      have hPl := hP.sub (ws' := [(h0, .inr (12, mG q i_taped i_size i_sort i_what i_at i_end i_worth i_faultKind i_faultPlace i_got i_worked (nI dl) i_isPlanned i_bestDone i_bestCost)), (q 51, .inl (E.2.1 0, 512, .inl a_least)), (q 55, .inl (E.2.1 0, 4, .inl a_sets)), (q 54, .inl (E.2.1 0, 7, .inl a_bestGiven)), (q 53, .inl (E.2.1 0, 7, .inl a_given))]) [0, 1, 2, 3, 4] rfl
      have hDl := hD.sub (ws' := [(h0, .inr (12, mG q i_taped i_size i_sort i_what i_at i_end i_worth i_faultKind i_faultPlace i_got i_worked (nI dl) i_isPlanned i_bestDone i_bestCost)), (q 51, .inl (E.2.1 0, 512, .inl a_least)), (q 55, .inl (E.2.1 0, 4, .inl a_sets)), (q 54, .inl (E.2.1 0, 7, .inl a_bestGiven)), (q 53, .inl (E.2.1 0, 7, .inl a_given))]) [0, 1, 2, 3, 4] (by decide) rfl
      refine lm_bits E h0 q i_taped i_size i_sort i_what i_at i_end i_worth i_faultKind i_faultPlace i_got i_worked i_isPlanned i_bestDone i_bestCost dl x_142 0 ([(q 51, .inl (E.2.1 0, 512, .inl a_least)), (q 55, .inl (E.2.1 0, 4, .inl a_sets)), (q 54, .inl (E.2.1 0, 7, .inl a_bestGiven)), (q 53, .inl (E.2.1 0, 7, .inl a_given))]) hx hb hml hown hts hkn hst hA  (fun n_144 H locs ls  hP hD hS hl => ?_) (w_131 + 1) w_131 0 _ _ _ (Nat.lt_succ_self _) hPl hDl hS (lv_sub hl [4, 3, 1, 2, 0] rfl)
      have hP : va_P E.1 vwCl [(h0, .inr (12, mG q i_taped i_size i_sort i_what i_at i_end i_worth i_faultKind i_faultPlace i_got i_worked (nI dl) i_isPlanned i_bestDone i_bestCost)), (q 51, .inl (E.2.1 0, 512, .inl a_least)), (q 55, .inl (E.2.1 0, 4, .inl a_sets)), (q 54, .inl (E.2.1 0, 7, .inl a_bestGiven)), (q 53, .inl (E.2.1 0, 7, .inl a_given))] H := hP
      have hD : va_D A [(h0, .inr (12, mG q i_taped i_size i_sort i_what i_at i_end i_worth i_faultKind i_faultPlace i_got i_worked (nI dl) i_isPlanned i_bestDone i_bestCost)), (q 51, .inl (E.2.1 0, 512, .inl a_least)), (q 55, .inl (E.2.1 0, 4, .inl a_sets)), (q 54, .inl (E.2.1 0, 7, .inl a_bestGiven)), (q 53, .inl (E.2.1 0, 7, .inl a_given))] := hD
      refine lv_iinc (v := 1) (lv' := [(4, .int 1), (0, .ref h0), (2, .int n_144), (3, .int x_142)]) hx hb dX12_give_96 hl (k := 3) rfl (by decide) (by decide) rfl (fun ls hl => ?_)
      refine lv_goto (tgt := 15) hx hb dX12_give_99 (by decide) ?_
      refine lv_iload hx hb dX12_give_15 (lv_at hl 0 rfl) ?_
      refine lv_iconst (v := 4) hx hb dX12_give_17 (by decide) ?_
      refine lv_icmp_ge (tgt := 102) hx hb dX12_give_18 (by decide) (fun c9 => absurd c9 (by decide)) (fun _ => ?_)
      refine lv_aload_n hx hb dX12_give_21 rfl (lv_at hl 1 rfl) ?_
      refine va_get (D := E.1) (ci := 12) (v := .ref (q 51)) (C := RX12) (T := TX12) (N := 59) hx hb hts inX12 hown hK hP 0 rfl rfl 51 (by decide) fl130 (fun _ h9 => h9) rfl dX12_give_22 ?_
      refine lv_sipush (v := 128) hx hb dX12_give_25 (by decide) ?_
      refine lv_iload hx hb dX12_give_28 (lv_at hl 0 rfl) ?_
      refine lv_imul hx hb dX12_give_30 ?_
      refine lv_topi (fun x_145 ex_145 => ?_)
      obtain rfl : x_145 = 128 := ex_145.trans (by decide +kernel)
      refine lv_aload_n hx hb dX12_give_31 rfl (lv_at hl 1 rfl) ?_
      refine va_get (D := E.1) (ci := 12) (v := .ref (q 55)) (C := RX12) (T := TX12) (N := 59) hx hb hts inX12 hown hK hP 0 rfl rfl 55 (by decide) fl142 (fun _ h9 => h9) rfl dX12_give_32 ?_
      refine lv_iload hx hb dX12_give_35 (lv_at hl 0 rfl) ?_
      refine va_iald hx hb hK hP 2 0 rfl rfl (show vp_in 1 4 from by unfold vp_in; decide) dX12_give_37 ?_
      refine lv_topi (fun x_146 ex_146 => ?_)
      have hv_147 : inR x_146 0 127 = true := by rw [ex_146]; exact hI_sets _ (vin_cl (show vp_in 1 4 from by unfold vp_in; decide))
      obtain ⟨w_148, hw_149, ew_150⟩ := inR_nI (n := 127) (by decide) hv_147
      subst ew_150
      refine lv_iadd hx hb dX12_give_38 ?_
      refine lv_topi (fun x_151 ex_151 => ?_)
      obtain rfl : x_151 = nI (128 + w_148) := ex_151.trans (nI_add 128 w_148)
      have hi_152 : vp_in (nI (128 + w_148)) 512 := vp_in_nI (by omega) (by decide)
      refine va_iald hx hb hK hP 1 0 rfl rfl hi_152 dX12_give_39 ?_
      refine lv_topi (fun x_153 ex_153 => ?_)
      refine lv_iconst (v := (-1)) hx hb dX12_give_40 (by decide) ?_
      refine lv_icmp_ne (tgt := 45) hx hb dX12_give_41 (by decide) (fun c_154 => ?_) (fun c_154 => ?_)
      · refine lv_iload_n hx hb dX12_give_45 rfl (lv_at hl 3 rfl) ?_
        refine lv_aload_n hx hb dX12_give_46 rfl (lv_at hl 1 rfl) ?_
        refine va_get (D := E.1) (ci := 12) (v := .ref (q 51)) (C := RX12) (T := TX12) (N := 59) hx hb hts inX12 hown hK hP 0 rfl rfl 51 (by decide) fl130 (fun _ h9 => h9) rfl dX12_give_47 ?_
        refine lv_sipush (v := 128) hx hb dX12_give_50 (by decide) ?_
        refine lv_iload hx hb dX12_give_53 (lv_at hl 0 rfl) ?_
        refine lv_imul hx hb dX12_give_55 ?_
        refine lv_topi (fun x_155 ex_155 => ?_)
        obtain rfl : x_155 = 128 := ex_155.trans (by decide +kernel)
        refine lv_aload_n hx hb dX12_give_56 rfl (lv_at hl 1 rfl) ?_
        refine va_get (D := E.1) (ci := 12) (v := .ref (q 55)) (C := RX12) (T := TX12) (N := 59) hx hb hts inX12 hown hK hP 0 rfl rfl 55 (by decide) fl142 (fun _ h9 => h9) rfl dX12_give_57 ?_
        refine lv_iload hx hb dX12_give_60 (lv_at hl 0 rfl) ?_
        refine va_iald hx hb hK hP 2 0 rfl rfl (show vp_in 1 4 from by unfold vp_in; decide) dX12_give_62 ?_
        refine lv_topi (fun x_156 ex_156 => ?_)
        obtain rfl : x_156 = nI w_148 := ex_156.trans ex_146.symm
        refine lv_iadd hx hb dX12_give_63 ?_
        refine lv_topi (fun x_157 ex_157 => ?_)
        obtain rfl : x_157 = nI (128 + w_148) := ex_157.trans (nI_add 128 w_148)
        refine va_iald hx hb hK hP 1 0 rfl rfl hi_152 dX12_give_64 ?_
        refine lv_topi (fun x_158 ex_158 => ?_)
        refine lv_iadd hx hb dX12_give_65 ?_
        refine lv_topi (fun x_159 ex_159 => ?_)
        refine lv_istore_n (lv' := [(3, .int x_159), (4, .int 1), (0, .ref h0), (2, .int n_144)]) hx hb dX12_give_66 rfl hl (by decide) rfl (fun ls hl => ?_)
        refine lv_aload_n hx hb dX12_give_67 rfl (lv_at hl 2 rfl) ?_
        refine va_get (D := E.1) (ci := 12) (v := .ref (q 55)) (C := RX12) (T := TX12) (N := 59) hx hb hts inX12 hown hK hP 0 rfl rfl 55 (by decide) fl142 (fun _ h9 => h9) rfl dX12_give_68 ?_
        refine lv_iload hx hb dX12_give_71 (lv_at hl 1 rfl) ?_
        refine va_iald hx hb hK hP 2 0 rfl rfl (show vp_in 1 4 from by unfold vp_in; decide) dX12_give_73 ?_
        refine lv_topi (fun x_160 ex_160 => ?_)
        obtain rfl : x_160 = nI w_148 := ex_160.trans ex_146.symm
        refine lv_istore (lv' := [(5, .int (nI w_148)), (3, .int x_159), (4, .int 1), (0, .ref h0), (2, .int n_144)]) hx hb dX12_give_74 hl (by decide) rfl (fun ls hl => ?_)
        have hPl := hP.sub (ws' := [(h0, .inr (12, mG q i_taped i_size i_sort i_what i_at i_end i_worth i_faultKind i_faultPlace i_got i_worked (nI dl) i_isPlanned i_bestDone i_bestCost)), (q 51, .inl (E.2.1 0, 512, .inl a_least)), (q 55, .inl (E.2.1 0, 4, .inl a_sets)), (q 54, .inl (E.2.1 0, 7, .inl a_bestGiven)), (q 53, .inl (E.2.1 0, 7, .inl a_given))]) [0, 1, 2, 3, 4] rfl
        have hDl := hD.sub (ws' := [(h0, .inr (12, mG q i_taped i_size i_sort i_what i_at i_end i_worth i_faultKind i_faultPlace i_got i_worked (nI dl) i_isPlanned i_bestDone i_bestCost)), (q 51, .inl (E.2.1 0, 512, .inl a_least)), (q 55, .inl (E.2.1 0, 4, .inl a_sets)), (q 54, .inl (E.2.1 0, 7, .inl a_bestGiven)), (q 53, .inl (E.2.1 0, 7, .inl a_given))]) [0, 1, 2, 3, 4] (by decide) rfl
        refine lm_bits E h0 q i_taped i_size i_sort i_what i_at i_end i_worth i_faultKind i_faultPlace i_got i_worked i_isPlanned i_bestDone i_bestCost dl x_159 1 ([(q 51, .inl (E.2.1 0, 512, .inl a_least)), (q 55, .inl (E.2.1 0, 4, .inl a_sets)), (q 54, .inl (E.2.1 0, 7, .inl a_bestGiven)), (q 53, .inl (E.2.1 0, 7, .inl a_given))]) hx hb hml hown hts hkn hst hA  (fun n_161 H locs ls  hP hD hS hl => ?_) (w_148 + 1) w_148 n_144 _ _ _ (Nat.lt_succ_self _) hPl hDl hS (lv_sub hl [3, 4, 1, 2, 0] rfl)
        have hP : va_P E.1 vwCl [(h0, .inr (12, mG q i_taped i_size i_sort i_what i_at i_end i_worth i_faultKind i_faultPlace i_got i_worked (nI dl) i_isPlanned i_bestDone i_bestCost)), (q 51, .inl (E.2.1 0, 512, .inl a_least)), (q 55, .inl (E.2.1 0, 4, .inl a_sets)), (q 54, .inl (E.2.1 0, 7, .inl a_bestGiven)), (q 53, .inl (E.2.1 0, 7, .inl a_given))] H := hP
        have hD : va_D A [(h0, .inr (12, mG q i_taped i_size i_sort i_what i_at i_end i_worth i_faultKind i_faultPlace i_got i_worked (nI dl) i_isPlanned i_bestDone i_bestCost)), (q 51, .inl (E.2.1 0, 512, .inl a_least)), (q 55, .inl (E.2.1 0, 4, .inl a_sets)), (q 54, .inl (E.2.1 0, 7, .inl a_bestGiven)), (q 53, .inl (E.2.1 0, 7, .inl a_given))] := hD
        refine lv_iinc (v := 2) (lv' := [(4, .int 2), (0, .ref h0), (2, .int n_161), (3, .int x_159)]) hx hb dX12_give_96 hl (k := 3) rfl (by decide) (by decide) rfl (fun ls hl => ?_)
        refine lv_goto (tgt := 15) hx hb dX12_give_99 (by decide) ?_
        refine lv_iload hx hb dX12_give_15 (lv_at hl 0 rfl) ?_
        refine lv_iconst (v := 4) hx hb dX12_give_17 (by decide) ?_
        refine lv_icmp_ge (tgt := 102) hx hb dX12_give_18 (by decide) (fun c9 => absurd c9 (by decide)) (fun _ => ?_)
        refine lv_aload_n hx hb dX12_give_21 rfl (lv_at hl 1 rfl) ?_
        refine va_get (D := E.1) (ci := 12) (v := .ref (q 51)) (C := RX12) (T := TX12) (N := 59) hx hb hts inX12 hown hK hP 0 rfl rfl 51 (by decide) fl130 (fun _ h9 => h9) rfl dX12_give_22 ?_
        refine lv_sipush (v := 128) hx hb dX12_give_25 (by decide) ?_
        refine lv_iload hx hb dX12_give_28 (lv_at hl 0 rfl) ?_
        refine lv_imul hx hb dX12_give_30 ?_
        refine lv_topi (fun x_162 ex_162 => ?_)
        obtain rfl : x_162 = 256 := ex_162.trans (by decide +kernel)
        refine lv_aload_n hx hb dX12_give_31 rfl (lv_at hl 1 rfl) ?_
        refine va_get (D := E.1) (ci := 12) (v := .ref (q 55)) (C := RX12) (T := TX12) (N := 59) hx hb hts inX12 hown hK hP 0 rfl rfl 55 (by decide) fl142 (fun _ h9 => h9) rfl dX12_give_32 ?_
        refine lv_iload hx hb dX12_give_35 (lv_at hl 0 rfl) ?_
        refine va_iald hx hb hK hP 2 0 rfl rfl (show vp_in 2 4 from by unfold vp_in; decide) dX12_give_37 ?_
        refine lv_topi (fun x_163 ex_163 => ?_)
        have hv_164 : inR x_163 0 127 = true := by rw [ex_163]; exact hI_sets _ (vin_cl (show vp_in 2 4 from by unfold vp_in; decide))
        obtain ⟨w_165, hw_166, ew_167⟩ := inR_nI (n := 127) (by decide) hv_164
        subst ew_167
        refine lv_iadd hx hb dX12_give_38 ?_
        refine lv_topi (fun x_168 ex_168 => ?_)
        obtain rfl : x_168 = nI (256 + w_165) := ex_168.trans (nI_add 256 w_165)
        have hi_169 : vp_in (nI (256 + w_165)) 512 := vp_in_nI (by omega) (by decide)
        refine va_iald hx hb hK hP 1 0 rfl rfl hi_169 dX12_give_39 ?_
        refine lv_topi (fun x_170 ex_170 => ?_)
        refine lv_iconst (v := (-1)) hx hb dX12_give_40 (by decide) ?_
        refine lv_icmp_ne (tgt := 45) hx hb dX12_give_41 (by decide) (fun c_171 => ?_) (fun c_171 => ?_)
        · refine lv_iload_n hx hb dX12_give_45 rfl (lv_at hl 3 rfl) ?_
          refine lv_aload_n hx hb dX12_give_46 rfl (lv_at hl 1 rfl) ?_
          refine va_get (D := E.1) (ci := 12) (v := .ref (q 51)) (C := RX12) (T := TX12) (N := 59) hx hb hts inX12 hown hK hP 0 rfl rfl 51 (by decide) fl130 (fun _ h9 => h9) rfl dX12_give_47 ?_
          refine lv_sipush (v := 128) hx hb dX12_give_50 (by decide) ?_
          refine lv_iload hx hb dX12_give_53 (lv_at hl 0 rfl) ?_
          refine lv_imul hx hb dX12_give_55 ?_
          refine lv_topi (fun x_172 ex_172 => ?_)
          obtain rfl : x_172 = 256 := ex_172.trans (by decide +kernel)
          refine lv_aload_n hx hb dX12_give_56 rfl (lv_at hl 1 rfl) ?_
          refine va_get (D := E.1) (ci := 12) (v := .ref (q 55)) (C := RX12) (T := TX12) (N := 59) hx hb hts inX12 hown hK hP 0 rfl rfl 55 (by decide) fl142 (fun _ h9 => h9) rfl dX12_give_57 ?_
          refine lv_iload hx hb dX12_give_60 (lv_at hl 0 rfl) ?_
          refine va_iald hx hb hK hP 2 0 rfl rfl (show vp_in 2 4 from by unfold vp_in; decide) dX12_give_62 ?_
          refine lv_topi (fun x_173 ex_173 => ?_)
          obtain rfl : x_173 = nI w_165 := ex_173.trans ex_163.symm
          refine lv_iadd hx hb dX12_give_63 ?_
          refine lv_topi (fun x_174 ex_174 => ?_)
          obtain rfl : x_174 = nI (256 + w_165) := ex_174.trans (nI_add 256 w_165)
          refine va_iald hx hb hK hP 1 0 rfl rfl hi_169 dX12_give_64 ?_
          refine lv_topi (fun x_175 ex_175 => ?_)
          refine lv_iadd hx hb dX12_give_65 ?_
          refine lv_topi (fun x_176 ex_176 => ?_)
          refine lv_istore_n (lv' := [(3, .int x_176), (4, .int 2), (0, .ref h0), (2, .int n_161)]) hx hb dX12_give_66 rfl hl (by decide) rfl (fun ls hl => ?_)
          refine lv_aload_n hx hb dX12_give_67 rfl (lv_at hl 2 rfl) ?_
          refine va_get (D := E.1) (ci := 12) (v := .ref (q 55)) (C := RX12) (T := TX12) (N := 59) hx hb hts inX12 hown hK hP 0 rfl rfl 55 (by decide) fl142 (fun _ h9 => h9) rfl dX12_give_68 ?_
          refine lv_iload hx hb dX12_give_71 (lv_at hl 1 rfl) ?_
          refine va_iald hx hb hK hP 2 0 rfl rfl (show vp_in 2 4 from by unfold vp_in; decide) dX12_give_73 ?_
          refine lv_topi (fun x_177 ex_177 => ?_)
          obtain rfl : x_177 = nI w_165 := ex_177.trans ex_163.symm
          refine lv_istore (lv' := [(5, .int (nI w_165)), (3, .int x_176), (4, .int 2), (0, .ref h0), (2, .int n_161)]) hx hb dX12_give_74 hl (by decide) rfl (fun ls hl => ?_)
          have hPl := hP.sub (ws' := [(h0, .inr (12, mG q i_taped i_size i_sort i_what i_at i_end i_worth i_faultKind i_faultPlace i_got i_worked (nI dl) i_isPlanned i_bestDone i_bestCost)), (q 51, .inl (E.2.1 0, 512, .inl a_least)), (q 55, .inl (E.2.1 0, 4, .inl a_sets)), (q 54, .inl (E.2.1 0, 7, .inl a_bestGiven)), (q 53, .inl (E.2.1 0, 7, .inl a_given))]) [0, 1, 2, 3, 4] rfl
          have hDl := hD.sub (ws' := [(h0, .inr (12, mG q i_taped i_size i_sort i_what i_at i_end i_worth i_faultKind i_faultPlace i_got i_worked (nI dl) i_isPlanned i_bestDone i_bestCost)), (q 51, .inl (E.2.1 0, 512, .inl a_least)), (q 55, .inl (E.2.1 0, 4, .inl a_sets)), (q 54, .inl (E.2.1 0, 7, .inl a_bestGiven)), (q 53, .inl (E.2.1 0, 7, .inl a_given))]) [0, 1, 2, 3, 4] (by decide) rfl
          refine lm_bits E h0 q i_taped i_size i_sort i_what i_at i_end i_worth i_faultKind i_faultPlace i_got i_worked i_isPlanned i_bestDone i_bestCost dl x_176 2 ([(q 51, .inl (E.2.1 0, 512, .inl a_least)), (q 55, .inl (E.2.1 0, 4, .inl a_sets)), (q 54, .inl (E.2.1 0, 7, .inl a_bestGiven)), (q 53, .inl (E.2.1 0, 7, .inl a_given))]) hx hb hml hown hts hkn hst hA  (fun n_178 H locs ls  hP hD hS hl => ?_) (w_165 + 1) w_165 n_161 _ _ _ (Nat.lt_succ_self _) hPl hDl hS (lv_sub hl [3, 4, 1, 2, 0] rfl)
          have hP : va_P E.1 vwCl [(h0, .inr (12, mG q i_taped i_size i_sort i_what i_at i_end i_worth i_faultKind i_faultPlace i_got i_worked (nI dl) i_isPlanned i_bestDone i_bestCost)), (q 51, .inl (E.2.1 0, 512, .inl a_least)), (q 55, .inl (E.2.1 0, 4, .inl a_sets)), (q 54, .inl (E.2.1 0, 7, .inl a_bestGiven)), (q 53, .inl (E.2.1 0, 7, .inl a_given))] H := hP
          have hD : va_D A [(h0, .inr (12, mG q i_taped i_size i_sort i_what i_at i_end i_worth i_faultKind i_faultPlace i_got i_worked (nI dl) i_isPlanned i_bestDone i_bestCost)), (q 51, .inl (E.2.1 0, 512, .inl a_least)), (q 55, .inl (E.2.1 0, 4, .inl a_sets)), (q 54, .inl (E.2.1 0, 7, .inl a_bestGiven)), (q 53, .inl (E.2.1 0, 7, .inl a_given))] := hD
          refine lv_iinc (v := 3) (lv' := [(4, .int 3), (0, .ref h0), (2, .int n_178), (3, .int x_176)]) hx hb dX12_give_96 hl (k := 3) rfl (by decide) (by decide) rfl (fun ls hl => ?_)
          refine lv_goto (tgt := 15) hx hb dX12_give_99 (by decide) ?_
          refine lv_iload hx hb dX12_give_15 (lv_at hl 0 rfl) ?_
          refine lv_iconst (v := 4) hx hb dX12_give_17 (by decide) ?_
          refine lv_icmp_ge (tgt := 102) hx hb dX12_give_18 (by decide) (fun c9 => absurd c9 (by decide)) (fun _ => ?_)
          refine lv_aload_n hx hb dX12_give_21 rfl (lv_at hl 1 rfl) ?_
          refine va_get (D := E.1) (ci := 12) (v := .ref (q 51)) (C := RX12) (T := TX12) (N := 59) hx hb hts inX12 hown hK hP 0 rfl rfl 51 (by decide) fl130 (fun _ h9 => h9) rfl dX12_give_22 ?_
          refine lv_sipush (v := 128) hx hb dX12_give_25 (by decide) ?_
          refine lv_iload hx hb dX12_give_28 (lv_at hl 0 rfl) ?_
          refine lv_imul hx hb dX12_give_30 ?_
          refine lv_topi (fun x_179 ex_179 => ?_)
          obtain rfl : x_179 = 384 := ex_179.trans (by decide +kernel)
          refine lv_aload_n hx hb dX12_give_31 rfl (lv_at hl 1 rfl) ?_
          refine va_get (D := E.1) (ci := 12) (v := .ref (q 55)) (C := RX12) (T := TX12) (N := 59) hx hb hts inX12 hown hK hP 0 rfl rfl 55 (by decide) fl142 (fun _ h9 => h9) rfl dX12_give_32 ?_
          refine lv_iload hx hb dX12_give_35 (lv_at hl 0 rfl) ?_
          refine va_iald hx hb hK hP 2 0 rfl rfl (show vp_in 3 4 from by unfold vp_in; decide) dX12_give_37 ?_
          refine lv_topi (fun x_180 ex_180 => ?_)
          have hv_181 : inR x_180 0 127 = true := by rw [ex_180]; exact hI_sets _ (vin_cl (show vp_in 3 4 from by unfold vp_in; decide))
          obtain ⟨w_182, hw_183, ew_184⟩ := inR_nI (n := 127) (by decide) hv_181
          subst ew_184
          refine lv_iadd hx hb dX12_give_38 ?_
          refine lv_topi (fun x_185 ex_185 => ?_)
          obtain rfl : x_185 = nI (384 + w_182) := ex_185.trans (nI_add 384 w_182)
          have hi_186 : vp_in (nI (384 + w_182)) 512 := vp_in_nI (by omega) (by decide)
          refine va_iald hx hb hK hP 1 0 rfl rfl hi_186 dX12_give_39 ?_
          refine lv_topi (fun x_187 ex_187 => ?_)
          refine lv_iconst (v := (-1)) hx hb dX12_give_40 (by decide) ?_
          refine lv_icmp_ne (tgt := 45) hx hb dX12_give_41 (by decide) (fun c_188 => ?_) (fun c_188 => ?_)
          · refine lv_iload_n hx hb dX12_give_45 rfl (lv_at hl 3 rfl) ?_
            refine lv_aload_n hx hb dX12_give_46 rfl (lv_at hl 1 rfl) ?_
            refine va_get (D := E.1) (ci := 12) (v := .ref (q 51)) (C := RX12) (T := TX12) (N := 59) hx hb hts inX12 hown hK hP 0 rfl rfl 51 (by decide) fl130 (fun _ h9 => h9) rfl dX12_give_47 ?_
            refine lv_sipush (v := 128) hx hb dX12_give_50 (by decide) ?_
            refine lv_iload hx hb dX12_give_53 (lv_at hl 0 rfl) ?_
            refine lv_imul hx hb dX12_give_55 ?_
            refine lv_topi (fun x_189 ex_189 => ?_)
            obtain rfl : x_189 = 384 := ex_189.trans (by decide +kernel)
            refine lv_aload_n hx hb dX12_give_56 rfl (lv_at hl 1 rfl) ?_
            refine va_get (D := E.1) (ci := 12) (v := .ref (q 55)) (C := RX12) (T := TX12) (N := 59) hx hb hts inX12 hown hK hP 0 rfl rfl 55 (by decide) fl142 (fun _ h9 => h9) rfl dX12_give_57 ?_
            refine lv_iload hx hb dX12_give_60 (lv_at hl 0 rfl) ?_
            refine va_iald hx hb hK hP 2 0 rfl rfl (show vp_in 3 4 from by unfold vp_in; decide) dX12_give_62 ?_
            refine lv_topi (fun x_190 ex_190 => ?_)
            obtain rfl : x_190 = nI w_182 := ex_190.trans ex_180.symm
            refine lv_iadd hx hb dX12_give_63 ?_
            refine lv_topi (fun x_191 ex_191 => ?_)
            obtain rfl : x_191 = nI (384 + w_182) := ex_191.trans (nI_add 384 w_182)
            refine va_iald hx hb hK hP 1 0 rfl rfl hi_186 dX12_give_64 ?_
            refine lv_topi (fun x_192 ex_192 => ?_)
            refine lv_iadd hx hb dX12_give_65 ?_
            refine lv_topi (fun x_193 ex_193 => ?_)
            refine lv_istore_n (lv' := [(3, .int x_193), (4, .int 3), (0, .ref h0), (2, .int n_178)]) hx hb dX12_give_66 rfl hl (by decide) rfl (fun ls hl => ?_)
            refine lv_aload_n hx hb dX12_give_67 rfl (lv_at hl 2 rfl) ?_
            refine va_get (D := E.1) (ci := 12) (v := .ref (q 55)) (C := RX12) (T := TX12) (N := 59) hx hb hts inX12 hown hK hP 0 rfl rfl 55 (by decide) fl142 (fun _ h9 => h9) rfl dX12_give_68 ?_
            refine lv_iload hx hb dX12_give_71 (lv_at hl 1 rfl) ?_
            refine va_iald hx hb hK hP 2 0 rfl rfl (show vp_in 3 4 from by unfold vp_in; decide) dX12_give_73 ?_
            refine lv_topi (fun x_194 ex_194 => ?_)
            obtain rfl : x_194 = nI w_182 := ex_194.trans ex_180.symm
            refine lv_istore (lv' := [(5, .int (nI w_182)), (3, .int x_193), (4, .int 3), (0, .ref h0), (2, .int n_178)]) hx hb dX12_give_74 hl (by decide) rfl (fun ls hl => ?_)
            have hPl := hP.sub (ws' := [(h0, .inr (12, mG q i_taped i_size i_sort i_what i_at i_end i_worth i_faultKind i_faultPlace i_got i_worked (nI dl) i_isPlanned i_bestDone i_bestCost)), (q 51, .inl (E.2.1 0, 512, .inl a_least)), (q 55, .inl (E.2.1 0, 4, .inl a_sets)), (q 54, .inl (E.2.1 0, 7, .inl a_bestGiven)), (q 53, .inl (E.2.1 0, 7, .inl a_given))]) [0, 1, 2, 3, 4] rfl
            have hDl := hD.sub (ws' := [(h0, .inr (12, mG q i_taped i_size i_sort i_what i_at i_end i_worth i_faultKind i_faultPlace i_got i_worked (nI dl) i_isPlanned i_bestDone i_bestCost)), (q 51, .inl (E.2.1 0, 512, .inl a_least)), (q 55, .inl (E.2.1 0, 4, .inl a_sets)), (q 54, .inl (E.2.1 0, 7, .inl a_bestGiven)), (q 53, .inl (E.2.1 0, 7, .inl a_given))]) [0, 1, 2, 3, 4] (by decide) rfl
            refine lm_bits E h0 q i_taped i_size i_sort i_what i_at i_end i_worth i_faultKind i_faultPlace i_got i_worked i_isPlanned i_bestDone i_bestCost dl x_193 3 ([(q 51, .inl (E.2.1 0, 512, .inl a_least)), (q 55, .inl (E.2.1 0, 4, .inl a_sets)), (q 54, .inl (E.2.1 0, 7, .inl a_bestGiven)), (q 53, .inl (E.2.1 0, 7, .inl a_given))]) hx hb hml hown hts hkn hst hA  (fun n_195 H locs ls  hP hD hS hl => ?_) (w_182 + 1) w_182 n_178 _ _ _ (Nat.lt_succ_self _) hPl hDl hS (lv_sub hl [3, 4, 1, 2, 0] rfl)
            have hP : va_P E.1 vwCl [(h0, .inr (12, mG q i_taped i_size i_sort i_what i_at i_end i_worth i_faultKind i_faultPlace i_got i_worked (nI dl) i_isPlanned i_bestDone i_bestCost)), (q 51, .inl (E.2.1 0, 512, .inl a_least)), (q 55, .inl (E.2.1 0, 4, .inl a_sets)), (q 54, .inl (E.2.1 0, 7, .inl a_bestGiven)), (q 53, .inl (E.2.1 0, 7, .inl a_given))] H := hP
            have hD : va_D A [(h0, .inr (12, mG q i_taped i_size i_sort i_what i_at i_end i_worth i_faultKind i_faultPlace i_got i_worked (nI dl) i_isPlanned i_bestDone i_bestCost)), (q 51, .inl (E.2.1 0, 512, .inl a_least)), (q 55, .inl (E.2.1 0, 4, .inl a_sets)), (q 54, .inl (E.2.1 0, 7, .inl a_bestGiven)), (q 53, .inl (E.2.1 0, 7, .inl a_given))] := hD
            refine lv_iinc (v := 4) (lv' := [(4, .int 4), (0, .ref h0), (2, .int n_195), (3, .int x_193)]) hx hb dX12_give_96 hl (k := 3) rfl (by decide) (by decide) rfl (fun ls hl => ?_)
            refine lv_goto (tgt := 15) hx hb dX12_give_99 (by decide) ?_
            refine lv_iload hx hb dX12_give_15 (lv_at hl 0 rfl) ?_
            refine lv_iconst (v := 4) hx hb dX12_give_17 (by decide) ?_
            refine lv_icmp_ge (tgt := 102) hx hb dX12_give_18 (by decide) (fun _ => ?_) (fun c9 => absurd c9 (by decide))
            refine lv_iload_n hx hb dX12_give_102 rfl (lv_at hl 2 rfl) ?_
            refine lv_aload_n hx hb dX12_give_103 rfl (lv_at hl 1 rfl) ?_
            refine va_get (D := E.1) (ci := 12) (v := .int i_bestDone) (C := RX12) (T := TX12) (N := 59) hx hb hts inX12 hown hK hP 0 rfl rfl 57 (by decide) fl300 (fun _ h9 => h9) rfl dX12_give_104 ?_
            refine lv_icmp_lt (tgt := 126) hx hb dX12_give_107 (by decide) (fun c_196 => ?_) (fun c_196 => ?_)
            · have hP9 := hP.sub (ws' := [(h0, .inr (12, mG q i_taped i_size i_sort i_what i_at i_end i_worth i_faultKind i_faultPlace i_got i_worked (nI dl) i_isPlanned i_bestDone i_bestCost)), (q 51, .inl (E.2.1 0, 512, .inl a_least)), (q 55, .inl (E.2.1 0, 4, .inl a_sets)), (q 54, .inl (E.2.1 0, 7, .inl a_bestGiven)), (q 53, .inl (E.2.1 0, 7, .inl a_given))]) [0, 1, 2, 3, 4] rfl
              have hD9 := hD.sub (ws' := [(h0, .inr (12, mG q i_taped i_size i_sort i_what i_at i_end i_worth i_faultKind i_faultPlace i_got i_worked (nI dl) i_isPlanned i_bestDone i_bestCost)), (q 51, .inl (E.2.1 0, 512, .inl a_least)), (q 55, .inl (E.2.1 0, 4, .inl a_sets)), (q 54, .inl (E.2.1 0, 7, .inl a_bestGiven)), (q 53, .inl (E.2.1 0, 7, .inl a_given))]) [0, 1, 2, 3, 4] (by decide) rfl
              exact W.vret hx hb hr (fun t ht hW => ⟨⟨(i_bestDone, i_bestCost, a_sets, a_bestGiven, a_given), rfl, trivial, hI_sets, by rw [ht]; exact hP9, hD9⟩, hS.F ht⟩) hS.2.2 dX12_give_126
            · refine lv_iload_n hx hb dX12_give_110 rfl (lv_at hl 2 rfl) ?_
              refine lv_aload_n hx hb dX12_give_111 rfl (lv_at hl 1 rfl) ?_
              refine va_get (D := E.1) (ci := 12) (v := .int i_bestDone) (C := RX12) (T := TX12) (N := 59) hx hb hts inX12 hown hK hP 0 rfl rfl 57 (by decide) fl300 (fun _ h9 => h9) rfl dX12_give_112 ?_
              refine lv_icmp_ne (tgt := 127) hx hb dX12_give_115 (by decide) (fun c_197 => ?_) (fun c_197 => ?_)
              · refine lv_aload_n hx hb dX12_give_127 rfl (lv_at hl 1 rfl) ?_
                refine lv_iload_n hx hb dX12_give_128 rfl (lv_at hl 2 rfl) ?_
                refine va_put (D := E.1) (ci := 12) (v := .int n_195) (ty := .int) (C := RX12) (T := TX12) (N := 59) hx hb hts inX12 tyX12 tyX12_ok nmX12 hown hK hP hD hS 0 rfl rfl 57 (by decide) fl300 (fun _ h9 => h9) rfl (by decide +kernel) rfl rfl (Nat.le_of_ble_eq_true rfl) dX12_give_129 (fun H locs hP hD hS => ?_)
                have hP : va_P E.1 vwCl [(h0, .inr (12, mG q i_taped i_size i_sort i_what i_at i_end i_worth i_faultKind i_faultPlace i_got i_worked (nI dl) i_isPlanned n_195 i_bestCost)), (q 51, .inl (E.2.1 0, 512, .inl a_least)), (q 55, .inl (E.2.1 0, 4, .inl a_sets)), (q 54, .inl (E.2.1 0, 7, .inl a_bestGiven)), (q 53, .inl (E.2.1 0, 7, .inl a_given))] H := hP
                have hD : va_D A [(h0, .inr (12, mG q i_taped i_size i_sort i_what i_at i_end i_worth i_faultKind i_faultPlace i_got i_worked (nI dl) i_isPlanned n_195 i_bestCost)), (q 51, .inl (E.2.1 0, 512, .inl a_least)), (q 55, .inl (E.2.1 0, 4, .inl a_sets)), (q 54, .inl (E.2.1 0, 7, .inl a_bestGiven)), (q 53, .inl (E.2.1 0, 7, .inl a_given))] := hD
                refine lv_aload_n hx hb dX12_give_132 rfl (lv_at hl 1 rfl) ?_
                refine lv_iload_n hx hb dX12_give_133 rfl (lv_at hl 3 rfl) ?_
                refine va_put (D := E.1) (ci := 12) (v := .int x_193) (ty := .int) (C := RX12) (T := TX12) (N := 59) hx hb hts inX12 tyX12 tyX12_ok nmX12 hown hK hP hD hS 0 rfl rfl 58 (by decide) fl303 (fun _ h9 => h9) rfl (by decide +kernel) rfl rfl (Nat.le_of_ble_eq_true rfl) dX12_give_134 (fun H locs hP hD hS => ?_)
                have hP : va_P E.1 vwCl [(h0, .inr (12, mG q i_taped i_size i_sort i_what i_at i_end i_worth i_faultKind i_faultPlace i_got i_worked (nI dl) i_isPlanned n_195 x_193)), (q 51, .inl (E.2.1 0, 512, .inl a_least)), (q 55, .inl (E.2.1 0, 4, .inl a_sets)), (q 54, .inl (E.2.1 0, 7, .inl a_bestGiven)), (q 53, .inl (E.2.1 0, 7, .inl a_given))] H := hP
                have hD : va_D A [(h0, .inr (12, mG q i_taped i_size i_sort i_what i_at i_end i_worth i_faultKind i_faultPlace i_got i_worked (nI dl) i_isPlanned n_195 x_193)), (q 51, .inl (E.2.1 0, 512, .inl a_least)), (q 55, .inl (E.2.1 0, 4, .inl a_sets)), (q 54, .inl (E.2.1 0, 7, .inl a_bestGiven)), (q 53, .inl (E.2.1 0, 7, .inl a_given))] := hD
                refine lv_iconst (v := 0) hx hb dX12_give_137 (by decide) ?_
                refine lv_istore (lv' := [(4, .int 0), (0, .ref h0), (2, .int n_195), (3, .int x_193)]) hx hb dX12_give_138 hl (by decide) rfl (fun ls hl => ?_)
                have hPl := hP.sub (ws' := [(h0, .inr (12, mG q i_taped i_size i_sort i_what i_at i_end i_worth i_faultKind i_faultPlace i_got i_worked (nI dl) i_isPlanned n_195 x_193)), (q 53, .inl (E.2.1 0, 7, .inl a_given)), (q 54, .inl (E.2.1 0, 7, .inl a_bestGiven)), (q 51, .inl (E.2.1 0, 512, .inl a_least)), (q 55, .inl (E.2.1 0, 4, .inl a_sets))]) [0, 4, 3, 1, 2] rfl
                have hDl := hD.sub (ws' := [(h0, .inr (12, mG q i_taped i_size i_sort i_what i_at i_end i_worth i_faultKind i_faultPlace i_got i_worked (nI dl) i_isPlanned n_195 x_193)), (q 53, .inl (E.2.1 0, 7, .inl a_given)), (q 54, .inl (E.2.1 0, 7, .inl a_bestGiven)), (q 51, .inl (E.2.1 0, 512, .inl a_least)), (q 55, .inl (E.2.1 0, 4, .inl a_sets))]) [0, 4, 3, 1, 2] (by decide) rfl
                refine lm_copy E h0 q i_taped i_size i_sort i_what i_at i_end i_worth i_faultKind i_faultPlace i_got i_worked i_isPlanned n_195 x_193 dl a_given ([(q 51, .inl (E.2.1 0, 512, .inl a_least)), (q 55, .inl (E.2.1 0, 4, .inl a_sets))]) hx hb hml hown hts hkn hst hA (by omega) (fun n_198 H locs ls  hP hD hS hl => ?_) 9 0 a_bestGiven _ _ _ (by omega) (by omega) hPl hDl hS (lv_sub hl [1, 0] rfl)
                have hP : va_P E.1 vwCl [(h0, .inr (12, mG q i_taped i_size i_sort i_what i_at i_end i_worth i_faultKind i_faultPlace i_got i_worked (nI dl) i_isPlanned n_195 x_193)), (q 53, .inl (E.2.1 0, 7, .inl a_given)), (q 54, .inl (E.2.1 0, 7, .inl n_198)), (q 51, .inl (E.2.1 0, 512, .inl a_least)), (q 55, .inl (E.2.1 0, 4, .inl a_sets))] H := hP
                have hD : va_D A [(h0, .inr (12, mG q i_taped i_size i_sort i_what i_at i_end i_worth i_faultKind i_faultPlace i_got i_worked (nI dl) i_isPlanned n_195 x_193)), (q 53, .inl (E.2.1 0, 7, .inl a_given)), (q 54, .inl (E.2.1 0, 7, .inl n_198)), (q 51, .inl (E.2.1 0, 512, .inl a_least)), (q 55, .inl (E.2.1 0, 4, .inl a_sets))] := hD
                have hP9 := hP.sub (ws' := [(h0, .inr (12, mG q i_taped i_size i_sort i_what i_at i_end i_worth i_faultKind i_faultPlace i_got i_worked (nI dl) i_isPlanned n_195 x_193)), (q 51, .inl (E.2.1 0, 512, .inl a_least)), (q 55, .inl (E.2.1 0, 4, .inl a_sets)), (q 54, .inl (E.2.1 0, 7, .inl n_198)), (q 53, .inl (E.2.1 0, 7, .inl a_given))]) [0, 3, 4, 2, 1] rfl
                have hD9 := hD.sub (ws' := [(h0, .inr (12, mG q i_taped i_size i_sort i_what i_at i_end i_worth i_faultKind i_faultPlace i_got i_worked (nI dl) i_isPlanned n_195 x_193)), (q 51, .inl (E.2.1 0, 512, .inl a_least)), (q 55, .inl (E.2.1 0, 4, .inl a_sets)), (q 54, .inl (E.2.1 0, 7, .inl n_198)), (q 53, .inl (E.2.1 0, 7, .inl a_given))]) [0, 3, 4, 2, 1] (by decide) rfl
                exact W.vret hx hb hr (fun t ht hW => ⟨⟨(n_195, x_193, a_sets, n_198, a_given), rfl, trivial, hI_sets, by rw [ht]; exact hP9, hD9⟩, hS.F ht⟩) hS.2.2 dX12_give_169
              · refine lv_iload_n hx hb dX12_give_118 rfl (lv_at hl 3 rfl) ?_
                refine lv_aload_n hx hb dX12_give_119 rfl (lv_at hl 1 rfl) ?_
                refine va_get (D := E.1) (ci := 12) (v := .int i_bestCost) (C := RX12) (T := TX12) (N := 59) hx hb hts inX12 hown hK hP 0 rfl rfl 58 (by decide) fl303 (fun _ h9 => h9) rfl dX12_give_120 ?_
                refine lv_icmp_lt (tgt := 127) hx hb dX12_give_123 (by decide) (fun c_199 => ?_) (fun c_199 => ?_)
                · refine lv_aload_n hx hb dX12_give_127 rfl (lv_at hl 1 rfl) ?_
                  refine lv_iload_n hx hb dX12_give_128 rfl (lv_at hl 2 rfl) ?_
                  refine va_put (D := E.1) (ci := 12) (v := .int n_195) (ty := .int) (C := RX12) (T := TX12) (N := 59) hx hb hts inX12 tyX12 tyX12_ok nmX12 hown hK hP hD hS 0 rfl rfl 57 (by decide) fl300 (fun _ h9 => h9) rfl (by decide +kernel) rfl rfl (Nat.le_of_ble_eq_true rfl) dX12_give_129 (fun H locs hP hD hS => ?_)
                  have hP : va_P E.1 vwCl [(h0, .inr (12, mG q i_taped i_size i_sort i_what i_at i_end i_worth i_faultKind i_faultPlace i_got i_worked (nI dl) i_isPlanned n_195 i_bestCost)), (q 51, .inl (E.2.1 0, 512, .inl a_least)), (q 55, .inl (E.2.1 0, 4, .inl a_sets)), (q 54, .inl (E.2.1 0, 7, .inl a_bestGiven)), (q 53, .inl (E.2.1 0, 7, .inl a_given))] H := hP
                  have hD : va_D A [(h0, .inr (12, mG q i_taped i_size i_sort i_what i_at i_end i_worth i_faultKind i_faultPlace i_got i_worked (nI dl) i_isPlanned n_195 i_bestCost)), (q 51, .inl (E.2.1 0, 512, .inl a_least)), (q 55, .inl (E.2.1 0, 4, .inl a_sets)), (q 54, .inl (E.2.1 0, 7, .inl a_bestGiven)), (q 53, .inl (E.2.1 0, 7, .inl a_given))] := hD
                  refine lv_aload_n hx hb dX12_give_132 rfl (lv_at hl 1 rfl) ?_
                  refine lv_iload_n hx hb dX12_give_133 rfl (lv_at hl 3 rfl) ?_
                  refine va_put (D := E.1) (ci := 12) (v := .int x_193) (ty := .int) (C := RX12) (T := TX12) (N := 59) hx hb hts inX12 tyX12 tyX12_ok nmX12 hown hK hP hD hS 0 rfl rfl 58 (by decide) fl303 (fun _ h9 => h9) rfl (by decide +kernel) rfl rfl (Nat.le_of_ble_eq_true rfl) dX12_give_134 (fun H locs hP hD hS => ?_)
                  have hP : va_P E.1 vwCl [(h0, .inr (12, mG q i_taped i_size i_sort i_what i_at i_end i_worth i_faultKind i_faultPlace i_got i_worked (nI dl) i_isPlanned n_195 x_193)), (q 51, .inl (E.2.1 0, 512, .inl a_least)), (q 55, .inl (E.2.1 0, 4, .inl a_sets)), (q 54, .inl (E.2.1 0, 7, .inl a_bestGiven)), (q 53, .inl (E.2.1 0, 7, .inl a_given))] H := hP
                  have hD : va_D A [(h0, .inr (12, mG q i_taped i_size i_sort i_what i_at i_end i_worth i_faultKind i_faultPlace i_got i_worked (nI dl) i_isPlanned n_195 x_193)), (q 51, .inl (E.2.1 0, 512, .inl a_least)), (q 55, .inl (E.2.1 0, 4, .inl a_sets)), (q 54, .inl (E.2.1 0, 7, .inl a_bestGiven)), (q 53, .inl (E.2.1 0, 7, .inl a_given))] := hD
                  refine lv_iconst (v := 0) hx hb dX12_give_137 (by decide) ?_
                  refine lv_istore (lv' := [(4, .int 0), (0, .ref h0), (2, .int n_195), (3, .int x_193)]) hx hb dX12_give_138 hl (by decide) rfl (fun ls hl => ?_)
                  have hPl := hP.sub (ws' := [(h0, .inr (12, mG q i_taped i_size i_sort i_what i_at i_end i_worth i_faultKind i_faultPlace i_got i_worked (nI dl) i_isPlanned n_195 x_193)), (q 53, .inl (E.2.1 0, 7, .inl a_given)), (q 54, .inl (E.2.1 0, 7, .inl a_bestGiven)), (q 51, .inl (E.2.1 0, 512, .inl a_least)), (q 55, .inl (E.2.1 0, 4, .inl a_sets))]) [0, 4, 3, 1, 2] rfl
                  have hDl := hD.sub (ws' := [(h0, .inr (12, mG q i_taped i_size i_sort i_what i_at i_end i_worth i_faultKind i_faultPlace i_got i_worked (nI dl) i_isPlanned n_195 x_193)), (q 53, .inl (E.2.1 0, 7, .inl a_given)), (q 54, .inl (E.2.1 0, 7, .inl a_bestGiven)), (q 51, .inl (E.2.1 0, 512, .inl a_least)), (q 55, .inl (E.2.1 0, 4, .inl a_sets))]) [0, 4, 3, 1, 2] (by decide) rfl
                  refine lm_copy E h0 q i_taped i_size i_sort i_what i_at i_end i_worth i_faultKind i_faultPlace i_got i_worked i_isPlanned n_195 x_193 dl a_given ([(q 51, .inl (E.2.1 0, 512, .inl a_least)), (q 55, .inl (E.2.1 0, 4, .inl a_sets))]) hx hb hml hown hts hkn hst hA (by omega) (fun n_200 H locs ls  hP hD hS hl => ?_) 9 0 a_bestGiven _ _ _ (by omega) (by omega) hPl hDl hS (lv_sub hl [1, 0] rfl)
                  have hP : va_P E.1 vwCl [(h0, .inr (12, mG q i_taped i_size i_sort i_what i_at i_end i_worth i_faultKind i_faultPlace i_got i_worked (nI dl) i_isPlanned n_195 x_193)), (q 53, .inl (E.2.1 0, 7, .inl a_given)), (q 54, .inl (E.2.1 0, 7, .inl n_200)), (q 51, .inl (E.2.1 0, 512, .inl a_least)), (q 55, .inl (E.2.1 0, 4, .inl a_sets))] H := hP
                  have hD : va_D A [(h0, .inr (12, mG q i_taped i_size i_sort i_what i_at i_end i_worth i_faultKind i_faultPlace i_got i_worked (nI dl) i_isPlanned n_195 x_193)), (q 53, .inl (E.2.1 0, 7, .inl a_given)), (q 54, .inl (E.2.1 0, 7, .inl n_200)), (q 51, .inl (E.2.1 0, 512, .inl a_least)), (q 55, .inl (E.2.1 0, 4, .inl a_sets))] := hD
                  have hP9 := hP.sub (ws' := [(h0, .inr (12, mG q i_taped i_size i_sort i_what i_at i_end i_worth i_faultKind i_faultPlace i_got i_worked (nI dl) i_isPlanned n_195 x_193)), (q 51, .inl (E.2.1 0, 512, .inl a_least)), (q 55, .inl (E.2.1 0, 4, .inl a_sets)), (q 54, .inl (E.2.1 0, 7, .inl n_200)), (q 53, .inl (E.2.1 0, 7, .inl a_given))]) [0, 3, 4, 2, 1] rfl
                  have hD9 := hD.sub (ws' := [(h0, .inr (12, mG q i_taped i_size i_sort i_what i_at i_end i_worth i_faultKind i_faultPlace i_got i_worked (nI dl) i_isPlanned n_195 x_193)), (q 51, .inl (E.2.1 0, 512, .inl a_least)), (q 55, .inl (E.2.1 0, 4, .inl a_sets)), (q 54, .inl (E.2.1 0, 7, .inl n_200)), (q 53, .inl (E.2.1 0, 7, .inl a_given))]) [0, 3, 4, 2, 1] (by decide) rfl
                  exact W.vret hx hb hr (fun t ht hW => ⟨⟨(n_195, x_193, a_sets, n_200, a_given), rfl, trivial, hI_sets, by rw [ht]; exact hP9, hD9⟩, hS.F ht⟩) hS.2.2 dX12_give_169
                · have hP9 := hP.sub (ws' := [(h0, .inr (12, mG q i_taped i_size i_sort i_what i_at i_end i_worth i_faultKind i_faultPlace i_got i_worked (nI dl) i_isPlanned i_bestDone i_bestCost)), (q 51, .inl (E.2.1 0, 512, .inl a_least)), (q 55, .inl (E.2.1 0, 4, .inl a_sets)), (q 54, .inl (E.2.1 0, 7, .inl a_bestGiven)), (q 53, .inl (E.2.1 0, 7, .inl a_given))]) [0, 1, 2, 3, 4] rfl
                  have hD9 := hD.sub (ws' := [(h0, .inr (12, mG q i_taped i_size i_sort i_what i_at i_end i_worth i_faultKind i_faultPlace i_got i_worked (nI dl) i_isPlanned i_bestDone i_bestCost)), (q 51, .inl (E.2.1 0, 512, .inl a_least)), (q 55, .inl (E.2.1 0, 4, .inl a_sets)), (q 54, .inl (E.2.1 0, 7, .inl a_bestGiven)), (q 53, .inl (E.2.1 0, 7, .inl a_given))]) [0, 1, 2, 3, 4] (by decide) rfl
                  exact W.vret hx hb hr (fun t ht hW => ⟨⟨(i_bestDone, i_bestCost, a_sets, a_bestGiven, a_given), rfl, trivial, hI_sets, by rw [ht]; exact hP9, hD9⟩, hS.F ht⟩) hS.2.2 dX12_give_126
          · have hP9 := hP.sub (ws' := [(h0, .inr (12, mG q i_taped i_size i_sort i_what i_at i_end i_worth i_faultKind i_faultPlace i_got i_worked (nI dl) i_isPlanned i_bestDone i_bestCost)), (q 51, .inl (E.2.1 0, 512, .inl a_least)), (q 55, .inl (E.2.1 0, 4, .inl a_sets)), (q 54, .inl (E.2.1 0, 7, .inl a_bestGiven)), (q 53, .inl (E.2.1 0, 7, .inl a_given))]) [0, 1, 2, 3, 4] rfl
            have hD9 := hD.sub (ws' := [(h0, .inr (12, mG q i_taped i_size i_sort i_what i_at i_end i_worth i_faultKind i_faultPlace i_got i_worked (nI dl) i_isPlanned i_bestDone i_bestCost)), (q 51, .inl (E.2.1 0, 512, .inl a_least)), (q 55, .inl (E.2.1 0, 4, .inl a_sets)), (q 54, .inl (E.2.1 0, 7, .inl a_bestGiven)), (q 53, .inl (E.2.1 0, 7, .inl a_given))]) [0, 1, 2, 3, 4] (by decide) rfl
            exact W.vret hx hb hr (fun t ht hW => ⟨⟨(i_bestDone, i_bestCost, a_sets, a_bestGiven, a_given), rfl, trivial, hI_sets, by rw [ht]; exact hP9, hD9⟩, hS.F ht⟩) hS.2.2 dX12_give_44
        · have hP9 := hP.sub (ws' := [(h0, .inr (12, mG q i_taped i_size i_sort i_what i_at i_end i_worth i_faultKind i_faultPlace i_got i_worked (nI dl) i_isPlanned i_bestDone i_bestCost)), (q 51, .inl (E.2.1 0, 512, .inl a_least)), (q 55, .inl (E.2.1 0, 4, .inl a_sets)), (q 54, .inl (E.2.1 0, 7, .inl a_bestGiven)), (q 53, .inl (E.2.1 0, 7, .inl a_given))]) [0, 1, 2, 3, 4] rfl
          have hD9 := hD.sub (ws' := [(h0, .inr (12, mG q i_taped i_size i_sort i_what i_at i_end i_worth i_faultKind i_faultPlace i_got i_worked (nI dl) i_isPlanned i_bestDone i_bestCost)), (q 51, .inl (E.2.1 0, 512, .inl a_least)), (q 55, .inl (E.2.1 0, 4, .inl a_sets)), (q 54, .inl (E.2.1 0, 7, .inl a_bestGiven)), (q 53, .inl (E.2.1 0, 7, .inl a_given))]) [0, 1, 2, 3, 4] (by decide) rfl
          exact W.vret hx hb hr (fun t ht hW => ⟨⟨(i_bestDone, i_bestCost, a_sets, a_bestGiven, a_given), rfl, trivial, hI_sets, by rw [ht]; exact hP9, hD9⟩, hS.F ht⟩) hS.2.2 dX12_give_44
      · have hP9 := hP.sub (ws' := [(h0, .inr (12, mG q i_taped i_size i_sort i_what i_at i_end i_worth i_faultKind i_faultPlace i_got i_worked (nI dl) i_isPlanned i_bestDone i_bestCost)), (q 51, .inl (E.2.1 0, 512, .inl a_least)), (q 55, .inl (E.2.1 0, 4, .inl a_sets)), (q 54, .inl (E.2.1 0, 7, .inl a_bestGiven)), (q 53, .inl (E.2.1 0, 7, .inl a_given))]) [0, 1, 2, 3, 4] rfl
        have hD9 := hD.sub (ws' := [(h0, .inr (12, mG q i_taped i_size i_sort i_what i_at i_end i_worth i_faultKind i_faultPlace i_got i_worked (nI dl) i_isPlanned i_bestDone i_bestCost)), (q 51, .inl (E.2.1 0, 512, .inl a_least)), (q 55, .inl (E.2.1 0, 4, .inl a_sets)), (q 54, .inl (E.2.1 0, 7, .inl a_bestGiven)), (q 53, .inl (E.2.1 0, 7, .inl a_given))]) [0, 1, 2, 3, 4] (by decide) rfl
        exact W.vret hx hb hr (fun t ht hW => ⟨⟨(i_bestDone, i_bestCost, a_sets, a_bestGiven, a_given), rfl, trivial, hI_sets, by rw [ht]; exact hP9, hD9⟩, hS.F ht⟩) hS.2.2 dX12_give_44
    · have hP9 := hP.sub (ws' := [(h0, .inr (12, mG q i_taped i_size i_sort i_what i_at i_end i_worth i_faultKind i_faultPlace i_got i_worked (nI dl) i_isPlanned i_bestDone i_bestCost)), (q 51, .inl (E.2.1 0, 512, .inl a_least)), (q 55, .inl (E.2.1 0, 4, .inl a_sets)), (q 54, .inl (E.2.1 0, 7, .inl a_bestGiven)), (q 53, .inl (E.2.1 0, 7, .inl a_given))]) [0, 1, 2, 3, 4] rfl
      have hD9 := hD.sub (ws' := [(h0, .inr (12, mG q i_taped i_size i_sort i_what i_at i_end i_worth i_faultKind i_faultPlace i_got i_worked (nI dl) i_isPlanned i_bestDone i_bestCost)), (q 51, .inl (E.2.1 0, 512, .inl a_least)), (q 55, .inl (E.2.1 0, 4, .inl a_sets)), (q 54, .inl (E.2.1 0, 7, .inl a_bestGiven)), (q 53, .inl (E.2.1 0, 7, .inl a_given))]) [0, 1, 2, 3, 4] (by decide) rfl
      exact W.vret hx hb hr (fun t ht hW => ⟨⟨(i_bestDone, i_bestCost, a_sets, a_bestGiven, a_given), rfl, trivial, hI_sets, by rw [ht]; exact hP9, hD9⟩, hS.F ht⟩) hS.2.2 dX12_give_44
set_option maxHeartbeats 4000000 in
set_option maxRecDepth 100000 in
theorem c_X12_give1 (l : Launch) (E : vE) (h0 : Nat) (q : Nat → Nat) (i_taped : Int32) (i_size : Int32) (i_sort : Int32) (i_what : Int32) (i_at : Int32) (i_end : Int32) (i_worth : Int32) (i_faultKind : Int32) (i_faultPlace : Int32) (i_got : Int32) (i_worked : Int32) (i_isPlanned : Int32) (i_bestDone : Int32) (i_bestCost : Int32) (dl : Nat) (a_least : Nat → Int32) (a_sets : Nat → Int32) (a_bestGiven : Nat → Int32) (a_given : Nat → Int32) (sz : Nat) (hdl : dl ≤ 7) (hd : 1 ≤ dl) (hI_sets : ∀ k : Nat, k < 4 → inR (a_sets k) 0 127 = true) : Met l yX12_give wsX12_give ({ frames := 6, cells := 0, slots := 0, locals := 150 }) (pcW E [.ref h0, .int 1] sz [(h0, .inr (12, mG q i_taped i_size i_sort i_what i_at i_end i_worth i_faultKind i_faultPlace i_got i_worked (nI dl) i_isPlanned i_bestDone i_bestCost)), (q 51, .inl (E.2.1 0, 512, .inl a_least)), (q 55, .inl (E.2.1 0, 4, .inl a_sets)), (q 54, .inl (E.2.1 0, 7, .inl a_bestGiven)), (q 53, .inl (E.2.1 0, 7, .inl a_given))]) (va_Qv (fun (u : Int32 × Int32 × (Nat → Int32) × (Nat → Int32) × (Nat → Int32)) => match u with | (bd2, bc2, b_sets, b_bestGiven, b_given) => True) (fun (u : Int32 × Int32 × (Nat → Int32) × (Nat → Int32) × (Nat → Int32)) (t : State) => match u with | (bd2, bc2, b_sets, b_bestGiven, b_given) => (∀ k : Nat, k < 4 → inR (b_sets k) 0 127 = true) ∧ wB E (va_A [(h0, .inr (12, mG q i_taped i_size i_sort i_what i_at i_end i_worth i_faultKind i_faultPlace i_got i_worked (nI dl) i_isPlanned i_bestDone i_bestCost)), (q 51, .inl (E.2.1 0, 512, .inl a_least)), (q 55, .inl (E.2.1 0, 4, .inl a_sets)), (q 54, .inl (E.2.1 0, 7, .inl a_bestGiven)), (q 53, .inl (E.2.1 0, 7, .inl a_given))] sz) [(h0, .inr (12, mG q i_taped i_size i_sort i_what i_at i_end i_worth i_faultKind i_faultPlace i_got i_worked (nI dl) i_isPlanned bd2 bc2)), (q 51, .inl (E.2.1 0, 512, .inl a_least)), (q 55, .inl (E.2.1 0, 4, .inl b_sets)), (q 54, .inl (E.2.1 0, 7, .inl b_bestGiven)), (q 53, .inl (E.2.1 0, 7, .inl b_given))] t) (va_A [(h0, .inr (12, mG q i_taped i_size i_sort i_what i_at i_end i_worth i_faultKind i_faultPlace i_got i_worked (nI dl) i_isPlanned i_bestDone i_bestCost)), (q 51, .inl (E.2.1 0, 512, .inl a_least)), (q 55, .inl (E.2.1 0, 4, .inl a_sets)), (q 54, .inl (E.2.1 0, 7, .inl a_bestGiven)), (q 53, .inl (E.2.1 0, 7, .inl a_given))] sz)) 0 0 (va_A [(h0, .inr (12, mG q i_taped i_size i_sort i_what i_at i_end i_worth i_faultKind i_faultPlace i_got i_worked (nI dl) i_isPlanned i_bestDone i_bestCost)), (q 51, .inl (E.2.1 0, 512, .inl a_least)), (q 55, .inl (E.2.1 0, 4, .inl a_sets)), (q 54, .inl (E.2.1 0, 7, .inl a_bestGiven)), (q 53, .inl (E.2.1 0, 7, .inl a_given))] sz) := by
  refine Met.ofW (cc := cX12_give) (maxL := 6) (ret := none) (by decide) rfl ?_
  intro p e s m args below meth c s₁ B hml hv
  obtain ⟨rfl, hsz, hP, hkn, hD0, hst⟩ := hv
  have hx := B.exec
  have hb := B.bytes
  have hr := B.returns
  have hts := atoms_spec (ws := wsX12_give) B.pre
  have hown : s.vm.findClass RX12 = some m.cls := findClass_of_methodNamed B.named
  have hlocks := B.notSynchronized
  subst hsz
  have hD := hD0.self (sz := s.heap.size)
  have hK := hkn.1
  have hAO := hkn.2.2.1
  generalize hAe : va_A [(h0, .inr (12, mG q i_taped i_size i_sort i_what i_at i_end i_worth i_faultKind i_faultPlace i_got i_worked (nI dl) i_isPlanned i_bestDone i_bestCost)), (q 51, .inl (E.2.1 0, 512, .inl a_least)), (q 55, .inl (E.2.1 0, 4, .inl a_sets)), (q 54, .inl (E.2.1 0, 7, .inl a_bestGiven)), (q 53, .inl (E.2.1 0, 7, .inl a_given))] s.heap.size = A at hD hst ⊢
  have hA : ∀ q : Nat, s.heap.size ≤ q → A q := fun q h => by rw [← hAe]; exact Or.inr h
  have hS : va_S A s.heap s.heap [] := va_S.rf
  have hP : va_P E.1 vwCl [(h0, .inr (12, mG q i_taped i_size i_sort i_what i_at i_end i_worth i_faultKind i_faultPlace i_got i_worked (nI dl) i_isPlanned i_bestDone i_bestCost)), (q 51, .inl (E.2.1 0, 512, .inl a_least)), (q 55, .inl (E.2.1 0, 4, .inl a_sets)), (q 54, .inl (E.2.1 0, 7, .inl a_bestGiven)), (q 53, .inl (E.2.1 0, 7, .inl a_given))] s.heap := hP
  have hl := lv_entry ([.ref h0, .int 1]) (n := 6) (Nat.le_of_ble_eq_true rfl)
  rw [lg_entry_eq]
  generalize (lg_sl ([.ref h0, .int 1]) ++ List.replicate (6 - (lg_sl ([.ref h0, .int 1])).length) Slot.unset).toArray = ls at hl ⊢
  have hl : lv_has ls 6 [(0, .ref h0), (1, .int 1)] := hl
  have fl130 := hts (.fieldLink RX12 130 "BoatsHomeModel" "least" "[I") (by first | exact List.mem_of_getElem? (i := 2) rfl | decide +kernel)
  have fl136 := hts (.fieldLink RX12 136 "BoatsHomeModel" "given" "[I") (by first | exact List.mem_of_getElem? (i := 7) rfl | decide +kernel)
  have fl139 := hts (.fieldLink RX12 139 "BoatsHomeModel" "bestGiven" "[I") (by first | exact List.mem_of_getElem? (i := 6) rfl | decide +kernel)
  have fl142 := hts (.fieldLink RX12 142 "BoatsHomeModel" "sets" "[I") (by first | exact List.mem_of_getElem? (i := 3) rfl | decide +kernel)
  have fl289 := hts (.fieldLink RX12 289 "BoatsHomeModel" "deliveries" "I") (by first | exact List.mem_of_getElem? (i := 1) rfl | decide +kernel)
  have fl300 := hts (.fieldLink RX12 300 "BoatsHomeModel" "bestDone" "I") (by first | exact List.mem_of_getElem? (i := 4) rfl | decide +kernel)
  have fl303 := hts (.fieldLink RX12 303 "BoatsHomeModel" "bestCost" "I") (by first | exact List.mem_of_getElem? (i := 5) rfl | decide +kernel)
  have inX12 : ∀ w ∈ u_ws RX12 TX12 59, w ∈ wsX12_give := by first | exact fun w h9 => (List.mem_cons_of_mem _ (List.mem_append_right _ h9)) | decide +kernel
  refine lv_iload_n hx hb dX12_give_0 rfl (lv_at hl 1 rfl) ?_
  refine lv_aload_n hx hb dX12_give_1 rfl (lv_at hl 0 rfl) ?_
  refine va_get (D := E.1) (ci := 12) (v := .int (nI dl)) (C := RX12) (T := TX12) (N := 59) hx hb hts inX12 hown hK hP 0 rfl rfl 41 (by decide) fl289 (fun _ h9 => h9) rfl dX12_give_2 ?_
  refine lv_icmp_ne (tgt := 170) hx hb dX12_give_5 (by decide) (fun c_1 => ?_) (fun c_1 => ?_)
  · have hd2 : 1 + 1 ≤ dl := by
      rcases Nat.lt_or_ge 1 dl with q | q
      · exact q
      · exact absurd (by rw [show dl = 1 by omega]; rfl) c_1
    refine lv_iconst (v := 0) hx hb dX12_give_170 (by decide) ?_
    refine lv_istore_n (lv' := [(2, .int 0), (0, .ref h0), (1, .int 1)]) hx hb dX12_give_171 rfl hl (by decide) rfl (fun ls hl => ?_)
    refine lv_iload_n hx hb dX12_give_172 rfl (lv_at hl 0 rfl) ?_
    refine lv_iconst (v := 4) hx hb dX12_give_173 (by decide) ?_
    refine lv_icmp_ge (tgt := 223) hx hb dX12_give_174 (by decide) (fun c9 => absurd c9 (by decide)) (fun _ => ?_)
    refine lv_aload_n hx hb dX12_give_177 rfl (lv_at hl 1 rfl) ?_
    refine va_get (D := E.1) (ci := 12) (v := .ref (q 53)) (C := RX12) (T := TX12) (N := 59) hx hb hts inX12 hown hK hP 0 rfl rfl 53 (by decide) fl136 (fun _ h9 => h9) rfl dX12_give_178 ?_
    refine lv_iload_n hx hb dX12_give_181 rfl (lv_at hl 2 rfl) ?_
    refine lv_iload_n hx hb dX12_give_182 rfl (lv_at hl 0 rfl) ?_
    refine va_iast hx hb hK hP hD hS 4 0 rfl rfl (show vp_in 1 7 from by unfold vp_in; decide) dX12_give_183 (fun H locs hP hD hS => ?_)
    have hP : va_P E.1 vwCl [(h0, .inr (12, mG q i_taped i_size i_sort i_what i_at i_end i_worth i_faultKind i_faultPlace i_got i_worked (nI dl) i_isPlanned i_bestDone i_bestCost)), (q 51, .inl (E.2.1 0, 512, .inl a_least)), (q 55, .inl (E.2.1 0, 4, .inl a_sets)), (q 54, .inl (E.2.1 0, 7, .inl a_bestGiven)), (q 53, .inl (E.2.1 0, 7, .inl (upd a_given (Int32.toNatClampNeg 1) 0)))] H := hP
    have hD : va_D A [(h0, .inr (12, mG q i_taped i_size i_sort i_what i_at i_end i_worth i_faultKind i_faultPlace i_got i_worked (nI dl) i_isPlanned i_bestDone i_bestCost)), (q 51, .inl (E.2.1 0, 512, .inl a_least)), (q 55, .inl (E.2.1 0, 4, .inl a_sets)), (q 54, .inl (E.2.1 0, 7, .inl a_bestGiven)), (q 53, .inl (E.2.1 0, 7, .inl (upd a_given (Int32.toNatClampNeg 1) 0)))] := hD
    obtain ⟨f_2, ef_2⟩ : ∃ g : Nat → Int32, g = upd a_given (Int32.toNatClampNeg 1) 0 := ⟨_, rfl⟩
    rw [← ef_2] at hP hD
    refine lv_aload_n hx hb dX12_give_184 rfl (lv_at hl 1 rfl) ?_
    refine va_get (D := E.1) (ci := 12) (v := .ref (q 55)) (C := RX12) (T := TX12) (N := 59) hx hb hts inX12 hown hK hP 0 rfl rfl 55 (by decide) fl142 (fun _ h9 => h9) rfl dX12_give_185 ?_
    refine lv_iload_n hx hb dX12_give_188 rfl (lv_at hl 0 rfl) ?_
    refine lv_dup2_11 hx hb dX12_give_189 rfl rfl ?_
    refine va_iald hx hb hK hP 2 0 rfl rfl (show vp_in 0 4 from by unfold vp_in; decide) dX12_give_190 ?_
    refine lv_topi (fun x_3 ex_3 => ?_)
    have hv_4 : inR x_3 0 127 = true := by rw [ex_3]; exact hI_sets _ (vin_cl (show vp_in 0 4 from by unfold vp_in; decide))
    obtain ⟨w_5, hw_6, ew_7⟩ := inR_nI (n := 127) (by decide) hv_4
    subst ew_7
    refine lv_iconst (v := 1) hx hb dX12_give_191 (by decide) ?_
    refine lv_iload_n hx hb dX12_give_192 rfl (lv_at hl 2 rfl) ?_
    refine lv_ishl hx hb dX12_give_193 ?_
    refine lv_topi (fun x_8 ex_8 => ?_)
    obtain rfl : x_8 = 2 := ex_8.trans (by decide +kernel)
    refine lv_ior hx hb dX12_give_194 ?_
    refine lv_topi (fun x_9 ex_9 => ?_)
    refine va_iast hx hb hK hP hD hS 2 0 rfl rfl (show vp_in 0 4 from by unfold vp_in; decide) dX12_give_195 (fun H locs hP hD hS => ?_)
    have hP : va_P E.1 vwCl [(h0, .inr (12, mG q i_taped i_size i_sort i_what i_at i_end i_worth i_faultKind i_faultPlace i_got i_worked (nI dl) i_isPlanned i_bestDone i_bestCost)), (q 51, .inl (E.2.1 0, 512, .inl a_least)), (q 55, .inl (E.2.1 0, 4, .inl (upd a_sets (Int32.toNatClampNeg 0) x_9))), (q 54, .inl (E.2.1 0, 7, .inl a_bestGiven)), (q 53, .inl (E.2.1 0, 7, .inl f_2))] H := hP
    have hD : va_D A [(h0, .inr (12, mG q i_taped i_size i_sort i_what i_at i_end i_worth i_faultKind i_faultPlace i_got i_worked (nI dl) i_isPlanned i_bestDone i_bestCost)), (q 51, .inl (E.2.1 0, 512, .inl a_least)), (q 55, .inl (E.2.1 0, 4, .inl (upd a_sets (Int32.toNatClampNeg 0) x_9))), (q 54, .inl (E.2.1 0, 7, .inl a_bestGiven)), (q 53, .inl (E.2.1 0, 7, .inl f_2))] := hD
    obtain ⟨f_10, ef_10⟩ : ∃ g : Nat → Int32, g = upd a_sets (Int32.toNatClampNeg 0) x_9 := ⟨_, rfl⟩
    rw [← ef_10] at hP hD
    have hI_11 : ∀ k : Nat, k < 4 → inR (f_10 k) 0 127 = true := by rw [ef_10]; exact all_upd (P := fun z => inR z 0 127 = true) hI_sets (by rw [ex_9]; exact or_lt7 _ (by omega) 1 (by decide))
    refine lv_aload_n hx hb dX12_give_196 rfl (lv_at hl 1 rfl) ?_
    refine lv_iload_n hx hb dX12_give_197 rfl (lv_at hl 2 rfl) ?_
    refine lv_iconst (v := 1) hx hb dX12_give_198 (by decide) ?_
    refine lv_iadd hx hb dX12_give_199 ?_
    refine lv_topi (fun x_12 ex_12 => ?_)
    obtain rfl : x_12 = 2 := ex_12.trans (by decide +kernel)
    have hPc := hP.sub (ws' := [(h0, .inr (12, mG q i_taped i_size i_sort i_what i_at i_end i_worth i_faultKind i_faultPlace i_got i_worked (nI dl) i_isPlanned i_bestDone i_bestCost)), (q 51, .inl (E.2.1 0, 512, .inl a_least)), (q 55, .inl (E.2.1 0, 4, .inl f_10)), (q 54, .inl (E.2.1 0, 7, .inl a_bestGiven)), (q 53, .inl (E.2.1 0, 7, .inl f_2))]) [0, 1, 2, 3, 4] rfl
    have hDc := hD.sub (ws' := [(h0, .inr (12, mG q i_taped i_size i_sort i_what i_at i_end i_worth i_faultKind i_faultPlace i_got i_worked (nI dl) i_isPlanned i_bestDone i_bestCost)), (q 51, .inl (E.2.1 0, 512, .inl a_least)), (q 55, .inl (E.2.1 0, 4, .inl f_10)), (q 54, .inl (E.2.1 0, 7, .inl a_bestGiven)), (q 53, .inl (E.2.1 0, 7, .inl f_2))]) [0, 1, 2, 3, 4] (by decide) rfl
    have hFc := va_free (wc := [(h0, .inr (12, mG q i_taped i_size i_sort i_what i_at i_end i_worth i_faultKind i_faultPlace i_got i_worked (nI dl) i_isPlanned i_bestDone i_bestCost)), (q 51, .inl (E.2.1 0, 512, .inl a_least)), (q 55, .inl (E.2.1 0, 4, .inl f_10)), (q 54, .inl (E.2.1 0, 7, .inl a_bestGiven)), (q 53, .inl (E.2.1 0, 7, .inl f_2))]) hD hS hA [0, 1, 2, 3, 4] rfl
    refine va_callv (va_runV (As := [.int 2]) (rest := []) ⟨hx, hb, hml, hown, hts⟩ (c_X12_give2 l E h0 q i_taped i_size i_sort i_what i_at i_end i_worth i_faultKind i_faultPlace i_got i_worked i_isPlanned i_bestDone i_bestCost dl a_least f_10 a_bestGiven f_2 H.size hdl hd2 hI_11) (cwV 1 hts gX12_give_X12_give rfl rfl rfl hdV_X12_give ⟨Nat.le_of_ble_eq_true rfl, Nat.le_of_ble_eq_true rfl⟩) ⟨pcW_blind, va_recv hK hPc (ci := 12) (q0 := 0) rfl rfl, (pcW_pre hPc hkn hDc hst hS hFc)⟩ rfl rfl hl.1 rfl (lv_room (Nat.le_of_ble_eq_true rfl)) dX12_give_200 ⟨Nat.le_of_ble_eq_true rfl, Nat.le_of_ble_eq_true rfl⟩) hS (fun q _ h => hFc q h) hFc (fun u t H1 locs ht hvm hw_14 hB hz1 hk1 hS => ?_)
    obtain ⟨u_15, u_16, u_17, u_18, u_19⟩ := u
    obtain ⟨hf_20, hP1, hD1⟩ := hB
    rw [ht] at hP1
    try dsimp only at hw_14
    obtain ⟨hP, hD⟩ := va_join (wr := []) (w1 := [(h0, .inr (12, mG q i_taped i_size i_sort i_what i_at i_end i_worth i_faultKind i_faultPlace i_got i_worked (nI dl) i_isPlanned u_15 u_16)), (q 51, .inl (E.2.1 0, 512, .inl a_least)), (q 55, .inl (E.2.1 0, 4, .inl u_17)), (q 54, .inl (E.2.1 0, 7, .inl u_18)), (q 53, .inl (E.2.1 0, 7, .inl u_19))]) hP hD [0, 1, 2, 3, 4] [] rfl rfl (by decide) (by decide) hk1 hFc hP1 hD1
    generalize H1 = H at hP hS ⊢
    have hP : va_P E.1 vwCl [(h0, .inr (12, mG q i_taped i_size i_sort i_what i_at i_end i_worth i_faultKind i_faultPlace i_got i_worked (nI dl) i_isPlanned u_15 u_16)), (q 51, .inl (E.2.1 0, 512, .inl a_least)), (q 55, .inl (E.2.1 0, 4, .inl u_17)), (q 54, .inl (E.2.1 0, 7, .inl u_18)), (q 53, .inl (E.2.1 0, 7, .inl u_19))] H := hP
    have hD : va_D A [(h0, .inr (12, mG q i_taped i_size i_sort i_what i_at i_end i_worth i_faultKind i_faultPlace i_got i_worked (nI dl) i_isPlanned u_15 u_16)), (q 51, .inl (E.2.1 0, 512, .inl a_least)), (q 55, .inl (E.2.1 0, 4, .inl u_17)), (q 54, .inl (E.2.1 0, 7, .inl u_18)), (q 53, .inl (E.2.1 0, 7, .inl u_19))] := hD
    refine lv_aload_n hx hb dX12_give_203 rfl (lv_at hl 1 rfl) ?_
    refine va_get (D := E.1) (ci := 12) (v := .ref (q 55)) (C := RX12) (T := TX12) (N := 59) hx hb hts inX12 hown hK hP 0 rfl rfl 55 (by decide) fl142 (fun _ h9 => h9) rfl dX12_give_204 ?_
    refine lv_iload_n hx hb dX12_give_207 rfl (lv_at hl 0 rfl) ?_
    refine lv_dup2_11 hx hb dX12_give_208 rfl rfl ?_
    refine va_iald hx hb hK hP 2 0 rfl rfl (show vp_in 0 4 from by unfold vp_in; decide) dX12_give_209 ?_
    refine lv_topi (fun x_21 ex_21 => ?_)
    have hv_22 : inR x_21 0 127 = true := by rw [ex_21]; exact hf_20 _ (vin_cl (show vp_in 0 4 from by unfold vp_in; decide))
    obtain ⟨w_23, hw_24, ew_25⟩ := inR_nI (n := 127) (by decide) hv_22
    subst ew_25
    refine lv_iconst (v := 1) hx hb dX12_give_210 (by decide) ?_
    refine lv_iload_n hx hb dX12_give_211 rfl (lv_at hl 2 rfl) ?_
    refine lv_ishl hx hb dX12_give_212 ?_
    refine lv_topi (fun x_26 ex_26 => ?_)
    obtain rfl : x_26 = 2 := ex_26.trans (by decide +kernel)
    refine lv_iconst (v := (-1)) hx hb dX12_give_213 (by decide) ?_
    refine lv_ixor hx hb dX12_give_214 ?_
    refine lv_topi (fun x_27 ex_27 => ?_)
    obtain rfl : x_27 = (-3) := ex_27.trans (by decide +kernel)
    refine lv_iand hx hb dX12_give_215 ?_
    refine lv_topi (fun x_28 ex_28 => ?_)
    refine va_iast hx hb hK hP hD hS 2 0 rfl rfl (show vp_in 0 4 from by unfold vp_in; decide) dX12_give_216 (fun H locs hP hD hS => ?_)
    have hP : va_P E.1 vwCl [(h0, .inr (12, mG q i_taped i_size i_sort i_what i_at i_end i_worth i_faultKind i_faultPlace i_got i_worked (nI dl) i_isPlanned u_15 u_16)), (q 51, .inl (E.2.1 0, 512, .inl a_least)), (q 55, .inl (E.2.1 0, 4, .inl (upd u_17 (Int32.toNatClampNeg 0) x_28))), (q 54, .inl (E.2.1 0, 7, .inl u_18)), (q 53, .inl (E.2.1 0, 7, .inl u_19))] H := hP
    have hD : va_D A [(h0, .inr (12, mG q i_taped i_size i_sort i_what i_at i_end i_worth i_faultKind i_faultPlace i_got i_worked (nI dl) i_isPlanned u_15 u_16)), (q 51, .inl (E.2.1 0, 512, .inl a_least)), (q 55, .inl (E.2.1 0, 4, .inl (upd u_17 (Int32.toNatClampNeg 0) x_28))), (q 54, .inl (E.2.1 0, 7, .inl u_18)), (q 53, .inl (E.2.1 0, 7, .inl u_19))] := hD
    obtain ⟨f_29, ef_29⟩ : ∃ g : Nat → Int32, g = upd u_17 (Int32.toNatClampNeg 0) x_28 := ⟨_, rfl⟩
    rw [← ef_29] at hP hD
    have hI_30 : ∀ k : Nat, k < 4 → inR (f_29 k) 0 127 = true := by rw [ef_29]; exact all_upd (P := fun z => inR z 0 127 = true) hf_20 (by rw [ex_28]; exact and_lt7 _ (by omega) 1 (by decide))
    refine lv_iinc (v := 1) (lv' := [(2, .int 1), (0, .ref h0), (1, .int 1)]) hx hb dX12_give_217 hl (k := 0) rfl (by decide) (by decide) rfl (fun ls hl => ?_)
    refine lv_goto (tgt := 172) hx hb dX12_give_220 (by decide) ?_
    refine lv_iload_n hx hb dX12_give_172 rfl (lv_at hl 0 rfl) ?_
    refine lv_iconst (v := 4) hx hb dX12_give_173 (by decide) ?_
    refine lv_icmp_ge (tgt := 223) hx hb dX12_give_174 (by decide) (fun c9 => absurd c9 (by decide)) (fun _ => ?_)
    refine lv_aload_n hx hb dX12_give_177 rfl (lv_at hl 1 rfl) ?_
    refine va_get (D := E.1) (ci := 12) (v := .ref (q 53)) (C := RX12) (T := TX12) (N := 59) hx hb hts inX12 hown hK hP 0 rfl rfl 53 (by decide) fl136 (fun _ h9 => h9) rfl dX12_give_178 ?_
    refine lv_iload_n hx hb dX12_give_181 rfl (lv_at hl 2 rfl) ?_
    refine lv_iload_n hx hb dX12_give_182 rfl (lv_at hl 0 rfl) ?_
    refine va_iast hx hb hK hP hD hS 4 0 rfl rfl (show vp_in 1 7 from by unfold vp_in; decide) dX12_give_183 (fun H locs hP hD hS => ?_)
    have hP : va_P E.1 vwCl [(h0, .inr (12, mG q i_taped i_size i_sort i_what i_at i_end i_worth i_faultKind i_faultPlace i_got i_worked (nI dl) i_isPlanned u_15 u_16)), (q 51, .inl (E.2.1 0, 512, .inl a_least)), (q 55, .inl (E.2.1 0, 4, .inl f_29)), (q 54, .inl (E.2.1 0, 7, .inl u_18)), (q 53, .inl (E.2.1 0, 7, .inl (upd u_19 (Int32.toNatClampNeg 1) 1)))] H := hP
    have hD : va_D A [(h0, .inr (12, mG q i_taped i_size i_sort i_what i_at i_end i_worth i_faultKind i_faultPlace i_got i_worked (nI dl) i_isPlanned u_15 u_16)), (q 51, .inl (E.2.1 0, 512, .inl a_least)), (q 55, .inl (E.2.1 0, 4, .inl f_29)), (q 54, .inl (E.2.1 0, 7, .inl u_18)), (q 53, .inl (E.2.1 0, 7, .inl (upd u_19 (Int32.toNatClampNeg 1) 1)))] := hD
    obtain ⟨f_31, ef_31⟩ : ∃ g : Nat → Int32, g = upd u_19 (Int32.toNatClampNeg 1) 1 := ⟨_, rfl⟩
    rw [← ef_31] at hP hD
    refine lv_aload_n hx hb dX12_give_184 rfl (lv_at hl 1 rfl) ?_
    refine va_get (D := E.1) (ci := 12) (v := .ref (q 55)) (C := RX12) (T := TX12) (N := 59) hx hb hts inX12 hown hK hP 0 rfl rfl 55 (by decide) fl142 (fun _ h9 => h9) rfl dX12_give_185 ?_
    refine lv_iload_n hx hb dX12_give_188 rfl (lv_at hl 0 rfl) ?_
    refine lv_dup2_11 hx hb dX12_give_189 rfl rfl ?_
    refine va_iald hx hb hK hP 2 0 rfl rfl (show vp_in 1 4 from by unfold vp_in; decide) dX12_give_190 ?_
    refine lv_topi (fun x_32 ex_32 => ?_)
    have hv_33 : inR x_32 0 127 = true := by rw [ex_32]; exact hI_30 _ (vin_cl (show vp_in 1 4 from by unfold vp_in; decide))
    obtain ⟨w_34, hw_35, ew_36⟩ := inR_nI (n := 127) (by decide) hv_33
    subst ew_36
    refine lv_iconst (v := 1) hx hb dX12_give_191 (by decide) ?_
    refine lv_iload_n hx hb dX12_give_192 rfl (lv_at hl 2 rfl) ?_
    refine lv_ishl hx hb dX12_give_193 ?_
    refine lv_topi (fun x_37 ex_37 => ?_)
    obtain rfl : x_37 = 2 := ex_37.trans (by decide +kernel)
    refine lv_ior hx hb dX12_give_194 ?_
    refine lv_topi (fun x_38 ex_38 => ?_)
    refine va_iast hx hb hK hP hD hS 2 0 rfl rfl (show vp_in 1 4 from by unfold vp_in; decide) dX12_give_195 (fun H locs hP hD hS => ?_)
    have hP : va_P E.1 vwCl [(h0, .inr (12, mG q i_taped i_size i_sort i_what i_at i_end i_worth i_faultKind i_faultPlace i_got i_worked (nI dl) i_isPlanned u_15 u_16)), (q 51, .inl (E.2.1 0, 512, .inl a_least)), (q 55, .inl (E.2.1 0, 4, .inl (upd f_29 (Int32.toNatClampNeg 1) x_38))), (q 54, .inl (E.2.1 0, 7, .inl u_18)), (q 53, .inl (E.2.1 0, 7, .inl f_31))] H := hP
    have hD : va_D A [(h0, .inr (12, mG q i_taped i_size i_sort i_what i_at i_end i_worth i_faultKind i_faultPlace i_got i_worked (nI dl) i_isPlanned u_15 u_16)), (q 51, .inl (E.2.1 0, 512, .inl a_least)), (q 55, .inl (E.2.1 0, 4, .inl (upd f_29 (Int32.toNatClampNeg 1) x_38))), (q 54, .inl (E.2.1 0, 7, .inl u_18)), (q 53, .inl (E.2.1 0, 7, .inl f_31))] := hD
    obtain ⟨f_39, ef_39⟩ : ∃ g : Nat → Int32, g = upd f_29 (Int32.toNatClampNeg 1) x_38 := ⟨_, rfl⟩
    rw [← ef_39] at hP hD
    have hI_40 : ∀ k : Nat, k < 4 → inR (f_39 k) 0 127 = true := by rw [ef_39]; exact all_upd (P := fun z => inR z 0 127 = true) hI_30 (by rw [ex_38]; exact or_lt7 _ (by omega) 1 (by decide))
    refine lv_aload_n hx hb dX12_give_196 rfl (lv_at hl 1 rfl) ?_
    refine lv_iload_n hx hb dX12_give_197 rfl (lv_at hl 2 rfl) ?_
    refine lv_iconst (v := 1) hx hb dX12_give_198 (by decide) ?_
    refine lv_iadd hx hb dX12_give_199 ?_
    refine lv_topi (fun x_41 ex_41 => ?_)
    obtain rfl : x_41 = 2 := ex_41.trans (by decide +kernel)
    have hPc := hP.sub (ws' := [(h0, .inr (12, mG q i_taped i_size i_sort i_what i_at i_end i_worth i_faultKind i_faultPlace i_got i_worked (nI dl) i_isPlanned u_15 u_16)), (q 51, .inl (E.2.1 0, 512, .inl a_least)), (q 55, .inl (E.2.1 0, 4, .inl f_39)), (q 54, .inl (E.2.1 0, 7, .inl u_18)), (q 53, .inl (E.2.1 0, 7, .inl f_31))]) [0, 1, 2, 3, 4] rfl
    have hDc := hD.sub (ws' := [(h0, .inr (12, mG q i_taped i_size i_sort i_what i_at i_end i_worth i_faultKind i_faultPlace i_got i_worked (nI dl) i_isPlanned u_15 u_16)), (q 51, .inl (E.2.1 0, 512, .inl a_least)), (q 55, .inl (E.2.1 0, 4, .inl f_39)), (q 54, .inl (E.2.1 0, 7, .inl u_18)), (q 53, .inl (E.2.1 0, 7, .inl f_31))]) [0, 1, 2, 3, 4] (by decide) rfl
    have hFc := va_free (wc := [(h0, .inr (12, mG q i_taped i_size i_sort i_what i_at i_end i_worth i_faultKind i_faultPlace i_got i_worked (nI dl) i_isPlanned u_15 u_16)), (q 51, .inl (E.2.1 0, 512, .inl a_least)), (q 55, .inl (E.2.1 0, 4, .inl f_39)), (q 54, .inl (E.2.1 0, 7, .inl u_18)), (q 53, .inl (E.2.1 0, 7, .inl f_31))]) hD hS hA [0, 1, 2, 3, 4] rfl
    refine va_callv (va_runV (As := [.int 2]) (rest := []) ⟨hx, hb, hml, hown, hts⟩ (c_X12_give2 l E h0 q i_taped i_size i_sort i_what i_at i_end i_worth i_faultKind i_faultPlace i_got i_worked i_isPlanned u_15 u_16 dl a_least f_39 u_18 f_31 H.size hdl hd2 hI_40) (cwV 1 hts gX12_give_X12_give rfl rfl rfl hdV_X12_give ⟨Nat.le_of_ble_eq_true rfl, Nat.le_of_ble_eq_true rfl⟩) ⟨pcW_blind, va_recv hK hPc (ci := 12) (q0 := 0) rfl rfl, (pcW_pre hPc hkn hDc hst hS hFc)⟩ rfl rfl hl.1 rfl (lv_room (Nat.le_of_ble_eq_true rfl)) dX12_give_200 ⟨Nat.le_of_ble_eq_true rfl, Nat.le_of_ble_eq_true rfl⟩) hS (fun q _ h => hFc q h) hFc (fun u t H1 locs ht hvm hw_43 hB hz1 hk1 hS => ?_)
    obtain ⟨u_44, u_45, u_46, u_47, u_48⟩ := u
    obtain ⟨hf_49, hP1, hD1⟩ := hB
    rw [ht] at hP1
    try dsimp only at hw_43
    obtain ⟨hP, hD⟩ := va_join (wr := []) (w1 := [(h0, .inr (12, mG q i_taped i_size i_sort i_what i_at i_end i_worth i_faultKind i_faultPlace i_got i_worked (nI dl) i_isPlanned u_44 u_45)), (q 51, .inl (E.2.1 0, 512, .inl a_least)), (q 55, .inl (E.2.1 0, 4, .inl u_46)), (q 54, .inl (E.2.1 0, 7, .inl u_47)), (q 53, .inl (E.2.1 0, 7, .inl u_48))]) hP hD [0, 1, 2, 3, 4] [] rfl rfl (by decide) (by decide) hk1 hFc hP1 hD1
    generalize H1 = H at hP hS ⊢
    have hP : va_P E.1 vwCl [(h0, .inr (12, mG q i_taped i_size i_sort i_what i_at i_end i_worth i_faultKind i_faultPlace i_got i_worked (nI dl) i_isPlanned u_44 u_45)), (q 51, .inl (E.2.1 0, 512, .inl a_least)), (q 55, .inl (E.2.1 0, 4, .inl u_46)), (q 54, .inl (E.2.1 0, 7, .inl u_47)), (q 53, .inl (E.2.1 0, 7, .inl u_48))] H := hP
    have hD : va_D A [(h0, .inr (12, mG q i_taped i_size i_sort i_what i_at i_end i_worth i_faultKind i_faultPlace i_got i_worked (nI dl) i_isPlanned u_44 u_45)), (q 51, .inl (E.2.1 0, 512, .inl a_least)), (q 55, .inl (E.2.1 0, 4, .inl u_46)), (q 54, .inl (E.2.1 0, 7, .inl u_47)), (q 53, .inl (E.2.1 0, 7, .inl u_48))] := hD
    refine lv_aload_n hx hb dX12_give_203 rfl (lv_at hl 1 rfl) ?_
    refine va_get (D := E.1) (ci := 12) (v := .ref (q 55)) (C := RX12) (T := TX12) (N := 59) hx hb hts inX12 hown hK hP 0 rfl rfl 55 (by decide) fl142 (fun _ h9 => h9) rfl dX12_give_204 ?_
    refine lv_iload_n hx hb dX12_give_207 rfl (lv_at hl 0 rfl) ?_
    refine lv_dup2_11 hx hb dX12_give_208 rfl rfl ?_
    refine va_iald hx hb hK hP 2 0 rfl rfl (show vp_in 1 4 from by unfold vp_in; decide) dX12_give_209 ?_
    refine lv_topi (fun x_50 ex_50 => ?_)
    have hv_51 : inR x_50 0 127 = true := by rw [ex_50]; exact hf_49 _ (vin_cl (show vp_in 1 4 from by unfold vp_in; decide))
    obtain ⟨w_52, hw_53, ew_54⟩ := inR_nI (n := 127) (by decide) hv_51
    subst ew_54
    refine lv_iconst (v := 1) hx hb dX12_give_210 (by decide) ?_
    refine lv_iload_n hx hb dX12_give_211 rfl (lv_at hl 2 rfl) ?_
    refine lv_ishl hx hb dX12_give_212 ?_
    refine lv_topi (fun x_55 ex_55 => ?_)
    obtain rfl : x_55 = 2 := ex_55.trans (by decide +kernel)
    refine lv_iconst (v := (-1)) hx hb dX12_give_213 (by decide) ?_
    refine lv_ixor hx hb dX12_give_214 ?_
    refine lv_topi (fun x_56 ex_56 => ?_)
    obtain rfl : x_56 = (-3) := ex_56.trans (by decide +kernel)
    refine lv_iand hx hb dX12_give_215 ?_
    refine lv_topi (fun x_57 ex_57 => ?_)
    refine va_iast hx hb hK hP hD hS 2 0 rfl rfl (show vp_in 1 4 from by unfold vp_in; decide) dX12_give_216 (fun H locs hP hD hS => ?_)
    have hP : va_P E.1 vwCl [(h0, .inr (12, mG q i_taped i_size i_sort i_what i_at i_end i_worth i_faultKind i_faultPlace i_got i_worked (nI dl) i_isPlanned u_44 u_45)), (q 51, .inl (E.2.1 0, 512, .inl a_least)), (q 55, .inl (E.2.1 0, 4, .inl (upd u_46 (Int32.toNatClampNeg 1) x_57))), (q 54, .inl (E.2.1 0, 7, .inl u_47)), (q 53, .inl (E.2.1 0, 7, .inl u_48))] H := hP
    have hD : va_D A [(h0, .inr (12, mG q i_taped i_size i_sort i_what i_at i_end i_worth i_faultKind i_faultPlace i_got i_worked (nI dl) i_isPlanned u_44 u_45)), (q 51, .inl (E.2.1 0, 512, .inl a_least)), (q 55, .inl (E.2.1 0, 4, .inl (upd u_46 (Int32.toNatClampNeg 1) x_57))), (q 54, .inl (E.2.1 0, 7, .inl u_47)), (q 53, .inl (E.2.1 0, 7, .inl u_48))] := hD
    obtain ⟨f_58, ef_58⟩ : ∃ g : Nat → Int32, g = upd u_46 (Int32.toNatClampNeg 1) x_57 := ⟨_, rfl⟩
    rw [← ef_58] at hP hD
    have hI_59 : ∀ k : Nat, k < 4 → inR (f_58 k) 0 127 = true := by rw [ef_58]; exact all_upd (P := fun z => inR z 0 127 = true) hf_49 (by rw [ex_57]; exact and_lt7 _ (by omega) 1 (by decide))
    refine lv_iinc (v := 2) (lv' := [(2, .int 2), (0, .ref h0), (1, .int 1)]) hx hb dX12_give_217 hl (k := 0) rfl (by decide) (by decide) rfl (fun ls hl => ?_)
    refine lv_goto (tgt := 172) hx hb dX12_give_220 (by decide) ?_
    refine lv_iload_n hx hb dX12_give_172 rfl (lv_at hl 0 rfl) ?_
    refine lv_iconst (v := 4) hx hb dX12_give_173 (by decide) ?_
    refine lv_icmp_ge (tgt := 223) hx hb dX12_give_174 (by decide) (fun c9 => absurd c9 (by decide)) (fun _ => ?_)
    refine lv_aload_n hx hb dX12_give_177 rfl (lv_at hl 1 rfl) ?_
    refine va_get (D := E.1) (ci := 12) (v := .ref (q 53)) (C := RX12) (T := TX12) (N := 59) hx hb hts inX12 hown hK hP 0 rfl rfl 53 (by decide) fl136 (fun _ h9 => h9) rfl dX12_give_178 ?_
    refine lv_iload_n hx hb dX12_give_181 rfl (lv_at hl 2 rfl) ?_
    refine lv_iload_n hx hb dX12_give_182 rfl (lv_at hl 0 rfl) ?_
    refine va_iast hx hb hK hP hD hS 4 0 rfl rfl (show vp_in 1 7 from by unfold vp_in; decide) dX12_give_183 (fun H locs hP hD hS => ?_)
    have hP : va_P E.1 vwCl [(h0, .inr (12, mG q i_taped i_size i_sort i_what i_at i_end i_worth i_faultKind i_faultPlace i_got i_worked (nI dl) i_isPlanned u_44 u_45)), (q 51, .inl (E.2.1 0, 512, .inl a_least)), (q 55, .inl (E.2.1 0, 4, .inl f_58)), (q 54, .inl (E.2.1 0, 7, .inl u_47)), (q 53, .inl (E.2.1 0, 7, .inl (upd u_48 (Int32.toNatClampNeg 1) 2)))] H := hP
    have hD : va_D A [(h0, .inr (12, mG q i_taped i_size i_sort i_what i_at i_end i_worth i_faultKind i_faultPlace i_got i_worked (nI dl) i_isPlanned u_44 u_45)), (q 51, .inl (E.2.1 0, 512, .inl a_least)), (q 55, .inl (E.2.1 0, 4, .inl f_58)), (q 54, .inl (E.2.1 0, 7, .inl u_47)), (q 53, .inl (E.2.1 0, 7, .inl (upd u_48 (Int32.toNatClampNeg 1) 2)))] := hD
    obtain ⟨f_60, ef_60⟩ : ∃ g : Nat → Int32, g = upd u_48 (Int32.toNatClampNeg 1) 2 := ⟨_, rfl⟩
    rw [← ef_60] at hP hD
    refine lv_aload_n hx hb dX12_give_184 rfl (lv_at hl 1 rfl) ?_
    refine va_get (D := E.1) (ci := 12) (v := .ref (q 55)) (C := RX12) (T := TX12) (N := 59) hx hb hts inX12 hown hK hP 0 rfl rfl 55 (by decide) fl142 (fun _ h9 => h9) rfl dX12_give_185 ?_
    refine lv_iload_n hx hb dX12_give_188 rfl (lv_at hl 0 rfl) ?_
    refine lv_dup2_11 hx hb dX12_give_189 rfl rfl ?_
    refine va_iald hx hb hK hP 2 0 rfl rfl (show vp_in 2 4 from by unfold vp_in; decide) dX12_give_190 ?_
    refine lv_topi (fun x_61 ex_61 => ?_)
    have hv_62 : inR x_61 0 127 = true := by rw [ex_61]; exact hI_59 _ (vin_cl (show vp_in 2 4 from by unfold vp_in; decide))
    obtain ⟨w_63, hw_64, ew_65⟩ := inR_nI (n := 127) (by decide) hv_62
    subst ew_65
    refine lv_iconst (v := 1) hx hb dX12_give_191 (by decide) ?_
    refine lv_iload_n hx hb dX12_give_192 rfl (lv_at hl 2 rfl) ?_
    refine lv_ishl hx hb dX12_give_193 ?_
    refine lv_topi (fun x_66 ex_66 => ?_)
    obtain rfl : x_66 = 2 := ex_66.trans (by decide +kernel)
    refine lv_ior hx hb dX12_give_194 ?_
    refine lv_topi (fun x_67 ex_67 => ?_)
    refine va_iast hx hb hK hP hD hS 2 0 rfl rfl (show vp_in 2 4 from by unfold vp_in; decide) dX12_give_195 (fun H locs hP hD hS => ?_)
    have hP : va_P E.1 vwCl [(h0, .inr (12, mG q i_taped i_size i_sort i_what i_at i_end i_worth i_faultKind i_faultPlace i_got i_worked (nI dl) i_isPlanned u_44 u_45)), (q 51, .inl (E.2.1 0, 512, .inl a_least)), (q 55, .inl (E.2.1 0, 4, .inl (upd f_58 (Int32.toNatClampNeg 2) x_67))), (q 54, .inl (E.2.1 0, 7, .inl u_47)), (q 53, .inl (E.2.1 0, 7, .inl f_60))] H := hP
    have hD : va_D A [(h0, .inr (12, mG q i_taped i_size i_sort i_what i_at i_end i_worth i_faultKind i_faultPlace i_got i_worked (nI dl) i_isPlanned u_44 u_45)), (q 51, .inl (E.2.1 0, 512, .inl a_least)), (q 55, .inl (E.2.1 0, 4, .inl (upd f_58 (Int32.toNatClampNeg 2) x_67))), (q 54, .inl (E.2.1 0, 7, .inl u_47)), (q 53, .inl (E.2.1 0, 7, .inl f_60))] := hD
    obtain ⟨f_68, ef_68⟩ : ∃ g : Nat → Int32, g = upd f_58 (Int32.toNatClampNeg 2) x_67 := ⟨_, rfl⟩
    rw [← ef_68] at hP hD
    have hI_69 : ∀ k : Nat, k < 4 → inR (f_68 k) 0 127 = true := by rw [ef_68]; exact all_upd (P := fun z => inR z 0 127 = true) hI_59 (by rw [ex_67]; exact or_lt7 _ (by omega) 1 (by decide))
    refine lv_aload_n hx hb dX12_give_196 rfl (lv_at hl 1 rfl) ?_
    refine lv_iload_n hx hb dX12_give_197 rfl (lv_at hl 2 rfl) ?_
    refine lv_iconst (v := 1) hx hb dX12_give_198 (by decide) ?_
    refine lv_iadd hx hb dX12_give_199 ?_
    refine lv_topi (fun x_70 ex_70 => ?_)
    obtain rfl : x_70 = 2 := ex_70.trans (by decide +kernel)
    have hPc := hP.sub (ws' := [(h0, .inr (12, mG q i_taped i_size i_sort i_what i_at i_end i_worth i_faultKind i_faultPlace i_got i_worked (nI dl) i_isPlanned u_44 u_45)), (q 51, .inl (E.2.1 0, 512, .inl a_least)), (q 55, .inl (E.2.1 0, 4, .inl f_68)), (q 54, .inl (E.2.1 0, 7, .inl u_47)), (q 53, .inl (E.2.1 0, 7, .inl f_60))]) [0, 1, 2, 3, 4] rfl
    have hDc := hD.sub (ws' := [(h0, .inr (12, mG q i_taped i_size i_sort i_what i_at i_end i_worth i_faultKind i_faultPlace i_got i_worked (nI dl) i_isPlanned u_44 u_45)), (q 51, .inl (E.2.1 0, 512, .inl a_least)), (q 55, .inl (E.2.1 0, 4, .inl f_68)), (q 54, .inl (E.2.1 0, 7, .inl u_47)), (q 53, .inl (E.2.1 0, 7, .inl f_60))]) [0, 1, 2, 3, 4] (by decide) rfl
    have hFc := va_free (wc := [(h0, .inr (12, mG q i_taped i_size i_sort i_what i_at i_end i_worth i_faultKind i_faultPlace i_got i_worked (nI dl) i_isPlanned u_44 u_45)), (q 51, .inl (E.2.1 0, 512, .inl a_least)), (q 55, .inl (E.2.1 0, 4, .inl f_68)), (q 54, .inl (E.2.1 0, 7, .inl u_47)), (q 53, .inl (E.2.1 0, 7, .inl f_60))]) hD hS hA [0, 1, 2, 3, 4] rfl
    refine va_callv (va_runV (As := [.int 2]) (rest := []) ⟨hx, hb, hml, hown, hts⟩ (c_X12_give2 l E h0 q i_taped i_size i_sort i_what i_at i_end i_worth i_faultKind i_faultPlace i_got i_worked i_isPlanned u_44 u_45 dl a_least f_68 u_47 f_60 H.size hdl hd2 hI_69) (cwV 1 hts gX12_give_X12_give rfl rfl rfl hdV_X12_give ⟨Nat.le_of_ble_eq_true rfl, Nat.le_of_ble_eq_true rfl⟩) ⟨pcW_blind, va_recv hK hPc (ci := 12) (q0 := 0) rfl rfl, (pcW_pre hPc hkn hDc hst hS hFc)⟩ rfl rfl hl.1 rfl (lv_room (Nat.le_of_ble_eq_true rfl)) dX12_give_200 ⟨Nat.le_of_ble_eq_true rfl, Nat.le_of_ble_eq_true rfl⟩) hS (fun q _ h => hFc q h) hFc (fun u t H1 locs ht hvm hw_72 hB hz1 hk1 hS => ?_)
    obtain ⟨u_73, u_74, u_75, u_76, u_77⟩ := u
    obtain ⟨hf_78, hP1, hD1⟩ := hB
    rw [ht] at hP1
    try dsimp only at hw_72
    obtain ⟨hP, hD⟩ := va_join (wr := []) (w1 := [(h0, .inr (12, mG q i_taped i_size i_sort i_what i_at i_end i_worth i_faultKind i_faultPlace i_got i_worked (nI dl) i_isPlanned u_73 u_74)), (q 51, .inl (E.2.1 0, 512, .inl a_least)), (q 55, .inl (E.2.1 0, 4, .inl u_75)), (q 54, .inl (E.2.1 0, 7, .inl u_76)), (q 53, .inl (E.2.1 0, 7, .inl u_77))]) hP hD [0, 1, 2, 3, 4] [] rfl rfl (by decide) (by decide) hk1 hFc hP1 hD1
    generalize H1 = H at hP hS ⊢
    have hP : va_P E.1 vwCl [(h0, .inr (12, mG q i_taped i_size i_sort i_what i_at i_end i_worth i_faultKind i_faultPlace i_got i_worked (nI dl) i_isPlanned u_73 u_74)), (q 51, .inl (E.2.1 0, 512, .inl a_least)), (q 55, .inl (E.2.1 0, 4, .inl u_75)), (q 54, .inl (E.2.1 0, 7, .inl u_76)), (q 53, .inl (E.2.1 0, 7, .inl u_77))] H := hP
    have hD : va_D A [(h0, .inr (12, mG q i_taped i_size i_sort i_what i_at i_end i_worth i_faultKind i_faultPlace i_got i_worked (nI dl) i_isPlanned u_73 u_74)), (q 51, .inl (E.2.1 0, 512, .inl a_least)), (q 55, .inl (E.2.1 0, 4, .inl u_75)), (q 54, .inl (E.2.1 0, 7, .inl u_76)), (q 53, .inl (E.2.1 0, 7, .inl u_77))] := hD
    refine lv_aload_n hx hb dX12_give_203 rfl (lv_at hl 1 rfl) ?_
    refine va_get (D := E.1) (ci := 12) (v := .ref (q 55)) (C := RX12) (T := TX12) (N := 59) hx hb hts inX12 hown hK hP 0 rfl rfl 55 (by decide) fl142 (fun _ h9 => h9) rfl dX12_give_204 ?_
    refine lv_iload_n hx hb dX12_give_207 rfl (lv_at hl 0 rfl) ?_
    refine lv_dup2_11 hx hb dX12_give_208 rfl rfl ?_
    refine va_iald hx hb hK hP 2 0 rfl rfl (show vp_in 2 4 from by unfold vp_in; decide) dX12_give_209 ?_
    refine lv_topi (fun x_79 ex_79 => ?_)
    have hv_80 : inR x_79 0 127 = true := by rw [ex_79]; exact hf_78 _ (vin_cl (show vp_in 2 4 from by unfold vp_in; decide))
    obtain ⟨w_81, hw_82, ew_83⟩ := inR_nI (n := 127) (by decide) hv_80
    subst ew_83
    refine lv_iconst (v := 1) hx hb dX12_give_210 (by decide) ?_
    refine lv_iload_n hx hb dX12_give_211 rfl (lv_at hl 2 rfl) ?_
    refine lv_ishl hx hb dX12_give_212 ?_
    refine lv_topi (fun x_84 ex_84 => ?_)
    obtain rfl : x_84 = 2 := ex_84.trans (by decide +kernel)
    refine lv_iconst (v := (-1)) hx hb dX12_give_213 (by decide) ?_
    refine lv_ixor hx hb dX12_give_214 ?_
    refine lv_topi (fun x_85 ex_85 => ?_)
    obtain rfl : x_85 = (-3) := ex_85.trans (by decide +kernel)
    refine lv_iand hx hb dX12_give_215 ?_
    refine lv_topi (fun x_86 ex_86 => ?_)
    refine va_iast hx hb hK hP hD hS 2 0 rfl rfl (show vp_in 2 4 from by unfold vp_in; decide) dX12_give_216 (fun H locs hP hD hS => ?_)
    have hP : va_P E.1 vwCl [(h0, .inr (12, mG q i_taped i_size i_sort i_what i_at i_end i_worth i_faultKind i_faultPlace i_got i_worked (nI dl) i_isPlanned u_73 u_74)), (q 51, .inl (E.2.1 0, 512, .inl a_least)), (q 55, .inl (E.2.1 0, 4, .inl (upd u_75 (Int32.toNatClampNeg 2) x_86))), (q 54, .inl (E.2.1 0, 7, .inl u_76)), (q 53, .inl (E.2.1 0, 7, .inl u_77))] H := hP
    have hD : va_D A [(h0, .inr (12, mG q i_taped i_size i_sort i_what i_at i_end i_worth i_faultKind i_faultPlace i_got i_worked (nI dl) i_isPlanned u_73 u_74)), (q 51, .inl (E.2.1 0, 512, .inl a_least)), (q 55, .inl (E.2.1 0, 4, .inl (upd u_75 (Int32.toNatClampNeg 2) x_86))), (q 54, .inl (E.2.1 0, 7, .inl u_76)), (q 53, .inl (E.2.1 0, 7, .inl u_77))] := hD
    obtain ⟨f_87, ef_87⟩ : ∃ g : Nat → Int32, g = upd u_75 (Int32.toNatClampNeg 2) x_86 := ⟨_, rfl⟩
    rw [← ef_87] at hP hD
    have hI_88 : ∀ k : Nat, k < 4 → inR (f_87 k) 0 127 = true := by rw [ef_87]; exact all_upd (P := fun z => inR z 0 127 = true) hf_78 (by rw [ex_86]; exact and_lt7 _ (by omega) 1 (by decide))
    refine lv_iinc (v := 3) (lv' := [(2, .int 3), (0, .ref h0), (1, .int 1)]) hx hb dX12_give_217 hl (k := 0) rfl (by decide) (by decide) rfl (fun ls hl => ?_)
    refine lv_goto (tgt := 172) hx hb dX12_give_220 (by decide) ?_
    refine lv_iload_n hx hb dX12_give_172 rfl (lv_at hl 0 rfl) ?_
    refine lv_iconst (v := 4) hx hb dX12_give_173 (by decide) ?_
    refine lv_icmp_ge (tgt := 223) hx hb dX12_give_174 (by decide) (fun c9 => absurd c9 (by decide)) (fun _ => ?_)
    refine lv_aload_n hx hb dX12_give_177 rfl (lv_at hl 1 rfl) ?_
    refine va_get (D := E.1) (ci := 12) (v := .ref (q 53)) (C := RX12) (T := TX12) (N := 59) hx hb hts inX12 hown hK hP 0 rfl rfl 53 (by decide) fl136 (fun _ h9 => h9) rfl dX12_give_178 ?_
    refine lv_iload_n hx hb dX12_give_181 rfl (lv_at hl 2 rfl) ?_
    refine lv_iload_n hx hb dX12_give_182 rfl (lv_at hl 0 rfl) ?_
    refine va_iast hx hb hK hP hD hS 4 0 rfl rfl (show vp_in 1 7 from by unfold vp_in; decide) dX12_give_183 (fun H locs hP hD hS => ?_)
    have hP : va_P E.1 vwCl [(h0, .inr (12, mG q i_taped i_size i_sort i_what i_at i_end i_worth i_faultKind i_faultPlace i_got i_worked (nI dl) i_isPlanned u_73 u_74)), (q 51, .inl (E.2.1 0, 512, .inl a_least)), (q 55, .inl (E.2.1 0, 4, .inl f_87)), (q 54, .inl (E.2.1 0, 7, .inl u_76)), (q 53, .inl (E.2.1 0, 7, .inl (upd u_77 (Int32.toNatClampNeg 1) 3)))] H := hP
    have hD : va_D A [(h0, .inr (12, mG q i_taped i_size i_sort i_what i_at i_end i_worth i_faultKind i_faultPlace i_got i_worked (nI dl) i_isPlanned u_73 u_74)), (q 51, .inl (E.2.1 0, 512, .inl a_least)), (q 55, .inl (E.2.1 0, 4, .inl f_87)), (q 54, .inl (E.2.1 0, 7, .inl u_76)), (q 53, .inl (E.2.1 0, 7, .inl (upd u_77 (Int32.toNatClampNeg 1) 3)))] := hD
    obtain ⟨f_89, ef_89⟩ : ∃ g : Nat → Int32, g = upd u_77 (Int32.toNatClampNeg 1) 3 := ⟨_, rfl⟩
    rw [← ef_89] at hP hD
    refine lv_aload_n hx hb dX12_give_184 rfl (lv_at hl 1 rfl) ?_
    refine va_get (D := E.1) (ci := 12) (v := .ref (q 55)) (C := RX12) (T := TX12) (N := 59) hx hb hts inX12 hown hK hP 0 rfl rfl 55 (by decide) fl142 (fun _ h9 => h9) rfl dX12_give_185 ?_
    refine lv_iload_n hx hb dX12_give_188 rfl (lv_at hl 0 rfl) ?_
    refine lv_dup2_11 hx hb dX12_give_189 rfl rfl ?_
    refine va_iald hx hb hK hP 2 0 rfl rfl (show vp_in 3 4 from by unfold vp_in; decide) dX12_give_190 ?_
    refine lv_topi (fun x_90 ex_90 => ?_)
    have hv_91 : inR x_90 0 127 = true := by rw [ex_90]; exact hI_88 _ (vin_cl (show vp_in 3 4 from by unfold vp_in; decide))
    obtain ⟨w_92, hw_93, ew_94⟩ := inR_nI (n := 127) (by decide) hv_91
    subst ew_94
    refine lv_iconst (v := 1) hx hb dX12_give_191 (by decide) ?_
    refine lv_iload_n hx hb dX12_give_192 rfl (lv_at hl 2 rfl) ?_
    refine lv_ishl hx hb dX12_give_193 ?_
    refine lv_topi (fun x_95 ex_95 => ?_)
    obtain rfl : x_95 = 2 := ex_95.trans (by decide +kernel)
    refine lv_ior hx hb dX12_give_194 ?_
    refine lv_topi (fun x_96 ex_96 => ?_)
    refine va_iast hx hb hK hP hD hS 2 0 rfl rfl (show vp_in 3 4 from by unfold vp_in; decide) dX12_give_195 (fun H locs hP hD hS => ?_)
    have hP : va_P E.1 vwCl [(h0, .inr (12, mG q i_taped i_size i_sort i_what i_at i_end i_worth i_faultKind i_faultPlace i_got i_worked (nI dl) i_isPlanned u_73 u_74)), (q 51, .inl (E.2.1 0, 512, .inl a_least)), (q 55, .inl (E.2.1 0, 4, .inl (upd f_87 (Int32.toNatClampNeg 3) x_96))), (q 54, .inl (E.2.1 0, 7, .inl u_76)), (q 53, .inl (E.2.1 0, 7, .inl f_89))] H := hP
    have hD : va_D A [(h0, .inr (12, mG q i_taped i_size i_sort i_what i_at i_end i_worth i_faultKind i_faultPlace i_got i_worked (nI dl) i_isPlanned u_73 u_74)), (q 51, .inl (E.2.1 0, 512, .inl a_least)), (q 55, .inl (E.2.1 0, 4, .inl (upd f_87 (Int32.toNatClampNeg 3) x_96))), (q 54, .inl (E.2.1 0, 7, .inl u_76)), (q 53, .inl (E.2.1 0, 7, .inl f_89))] := hD
    obtain ⟨f_97, ef_97⟩ : ∃ g : Nat → Int32, g = upd f_87 (Int32.toNatClampNeg 3) x_96 := ⟨_, rfl⟩
    rw [← ef_97] at hP hD
    have hI_98 : ∀ k : Nat, k < 4 → inR (f_97 k) 0 127 = true := by rw [ef_97]; exact all_upd (P := fun z => inR z 0 127 = true) hI_88 (by rw [ex_96]; exact or_lt7 _ (by omega) 1 (by decide))
    refine lv_aload_n hx hb dX12_give_196 rfl (lv_at hl 1 rfl) ?_
    refine lv_iload_n hx hb dX12_give_197 rfl (lv_at hl 2 rfl) ?_
    refine lv_iconst (v := 1) hx hb dX12_give_198 (by decide) ?_
    refine lv_iadd hx hb dX12_give_199 ?_
    refine lv_topi (fun x_99 ex_99 => ?_)
    obtain rfl : x_99 = 2 := ex_99.trans (by decide +kernel)
    have hPc := hP.sub (ws' := [(h0, .inr (12, mG q i_taped i_size i_sort i_what i_at i_end i_worth i_faultKind i_faultPlace i_got i_worked (nI dl) i_isPlanned u_73 u_74)), (q 51, .inl (E.2.1 0, 512, .inl a_least)), (q 55, .inl (E.2.1 0, 4, .inl f_97)), (q 54, .inl (E.2.1 0, 7, .inl u_76)), (q 53, .inl (E.2.1 0, 7, .inl f_89))]) [0, 1, 2, 3, 4] rfl
    have hDc := hD.sub (ws' := [(h0, .inr (12, mG q i_taped i_size i_sort i_what i_at i_end i_worth i_faultKind i_faultPlace i_got i_worked (nI dl) i_isPlanned u_73 u_74)), (q 51, .inl (E.2.1 0, 512, .inl a_least)), (q 55, .inl (E.2.1 0, 4, .inl f_97)), (q 54, .inl (E.2.1 0, 7, .inl u_76)), (q 53, .inl (E.2.1 0, 7, .inl f_89))]) [0, 1, 2, 3, 4] (by decide) rfl
    have hFc := va_free (wc := [(h0, .inr (12, mG q i_taped i_size i_sort i_what i_at i_end i_worth i_faultKind i_faultPlace i_got i_worked (nI dl) i_isPlanned u_73 u_74)), (q 51, .inl (E.2.1 0, 512, .inl a_least)), (q 55, .inl (E.2.1 0, 4, .inl f_97)), (q 54, .inl (E.2.1 0, 7, .inl u_76)), (q 53, .inl (E.2.1 0, 7, .inl f_89))]) hD hS hA [0, 1, 2, 3, 4] rfl
    refine va_callv (va_runV (As := [.int 2]) (rest := []) ⟨hx, hb, hml, hown, hts⟩ (c_X12_give2 l E h0 q i_taped i_size i_sort i_what i_at i_end i_worth i_faultKind i_faultPlace i_got i_worked i_isPlanned u_73 u_74 dl a_least f_97 u_76 f_89 H.size hdl hd2 hI_98) (cwV 1 hts gX12_give_X12_give rfl rfl rfl hdV_X12_give ⟨Nat.le_of_ble_eq_true rfl, Nat.le_of_ble_eq_true rfl⟩) ⟨pcW_blind, va_recv hK hPc (ci := 12) (q0 := 0) rfl rfl, (pcW_pre hPc hkn hDc hst hS hFc)⟩ rfl rfl hl.1 rfl (lv_room (Nat.le_of_ble_eq_true rfl)) dX12_give_200 ⟨Nat.le_of_ble_eq_true rfl, Nat.le_of_ble_eq_true rfl⟩) hS (fun q _ h => hFc q h) hFc (fun u t H1 locs ht hvm hw_101 hB hz1 hk1 hS => ?_)
    obtain ⟨u_102, u_103, u_104, u_105, u_106⟩ := u
    obtain ⟨hf_107, hP1, hD1⟩ := hB
    rw [ht] at hP1
    try dsimp only at hw_101
    obtain ⟨hP, hD⟩ := va_join (wr := []) (w1 := [(h0, .inr (12, mG q i_taped i_size i_sort i_what i_at i_end i_worth i_faultKind i_faultPlace i_got i_worked (nI dl) i_isPlanned u_102 u_103)), (q 51, .inl (E.2.1 0, 512, .inl a_least)), (q 55, .inl (E.2.1 0, 4, .inl u_104)), (q 54, .inl (E.2.1 0, 7, .inl u_105)), (q 53, .inl (E.2.1 0, 7, .inl u_106))]) hP hD [0, 1, 2, 3, 4] [] rfl rfl (by decide) (by decide) hk1 hFc hP1 hD1
    generalize H1 = H at hP hS ⊢
    have hP : va_P E.1 vwCl [(h0, .inr (12, mG q i_taped i_size i_sort i_what i_at i_end i_worth i_faultKind i_faultPlace i_got i_worked (nI dl) i_isPlanned u_102 u_103)), (q 51, .inl (E.2.1 0, 512, .inl a_least)), (q 55, .inl (E.2.1 0, 4, .inl u_104)), (q 54, .inl (E.2.1 0, 7, .inl u_105)), (q 53, .inl (E.2.1 0, 7, .inl u_106))] H := hP
    have hD : va_D A [(h0, .inr (12, mG q i_taped i_size i_sort i_what i_at i_end i_worth i_faultKind i_faultPlace i_got i_worked (nI dl) i_isPlanned u_102 u_103)), (q 51, .inl (E.2.1 0, 512, .inl a_least)), (q 55, .inl (E.2.1 0, 4, .inl u_104)), (q 54, .inl (E.2.1 0, 7, .inl u_105)), (q 53, .inl (E.2.1 0, 7, .inl u_106))] := hD
    refine lv_aload_n hx hb dX12_give_203 rfl (lv_at hl 1 rfl) ?_
    refine va_get (D := E.1) (ci := 12) (v := .ref (q 55)) (C := RX12) (T := TX12) (N := 59) hx hb hts inX12 hown hK hP 0 rfl rfl 55 (by decide) fl142 (fun _ h9 => h9) rfl dX12_give_204 ?_
    refine lv_iload_n hx hb dX12_give_207 rfl (lv_at hl 0 rfl) ?_
    refine lv_dup2_11 hx hb dX12_give_208 rfl rfl ?_
    refine va_iald hx hb hK hP 2 0 rfl rfl (show vp_in 3 4 from by unfold vp_in; decide) dX12_give_209 ?_
    refine lv_topi (fun x_108 ex_108 => ?_)
    have hv_109 : inR x_108 0 127 = true := by rw [ex_108]; exact hf_107 _ (vin_cl (show vp_in 3 4 from by unfold vp_in; decide))
    obtain ⟨w_110, hw_111, ew_112⟩ := inR_nI (n := 127) (by decide) hv_109
    subst ew_112
    refine lv_iconst (v := 1) hx hb dX12_give_210 (by decide) ?_
    refine lv_iload_n hx hb dX12_give_211 rfl (lv_at hl 2 rfl) ?_
    refine lv_ishl hx hb dX12_give_212 ?_
    refine lv_topi (fun x_113 ex_113 => ?_)
    obtain rfl : x_113 = 2 := ex_113.trans (by decide +kernel)
    refine lv_iconst (v := (-1)) hx hb dX12_give_213 (by decide) ?_
    refine lv_ixor hx hb dX12_give_214 ?_
    refine lv_topi (fun x_114 ex_114 => ?_)
    obtain rfl : x_114 = (-3) := ex_114.trans (by decide +kernel)
    refine lv_iand hx hb dX12_give_215 ?_
    refine lv_topi (fun x_115 ex_115 => ?_)
    refine va_iast hx hb hK hP hD hS 2 0 rfl rfl (show vp_in 3 4 from by unfold vp_in; decide) dX12_give_216 (fun H locs hP hD hS => ?_)
    have hP : va_P E.1 vwCl [(h0, .inr (12, mG q i_taped i_size i_sort i_what i_at i_end i_worth i_faultKind i_faultPlace i_got i_worked (nI dl) i_isPlanned u_102 u_103)), (q 51, .inl (E.2.1 0, 512, .inl a_least)), (q 55, .inl (E.2.1 0, 4, .inl (upd u_104 (Int32.toNatClampNeg 3) x_115))), (q 54, .inl (E.2.1 0, 7, .inl u_105)), (q 53, .inl (E.2.1 0, 7, .inl u_106))] H := hP
    have hD : va_D A [(h0, .inr (12, mG q i_taped i_size i_sort i_what i_at i_end i_worth i_faultKind i_faultPlace i_got i_worked (nI dl) i_isPlanned u_102 u_103)), (q 51, .inl (E.2.1 0, 512, .inl a_least)), (q 55, .inl (E.2.1 0, 4, .inl (upd u_104 (Int32.toNatClampNeg 3) x_115))), (q 54, .inl (E.2.1 0, 7, .inl u_105)), (q 53, .inl (E.2.1 0, 7, .inl u_106))] := hD
    obtain ⟨f_116, ef_116⟩ : ∃ g : Nat → Int32, g = upd u_104 (Int32.toNatClampNeg 3) x_115 := ⟨_, rfl⟩
    rw [← ef_116] at hP hD
    have hI_117 : ∀ k : Nat, k < 4 → inR (f_116 k) 0 127 = true := by rw [ef_116]; exact all_upd (P := fun z => inR z 0 127 = true) hf_107 (by rw [ex_115]; exact and_lt7 _ (by omega) 1 (by decide))
    refine lv_iinc (v := 4) (lv' := [(2, .int 4), (0, .ref h0), (1, .int 1)]) hx hb dX12_give_217 hl (k := 0) rfl (by decide) (by decide) rfl (fun ls hl => ?_)
    refine lv_goto (tgt := 172) hx hb dX12_give_220 (by decide) ?_
    refine lv_iload_n hx hb dX12_give_172 rfl (lv_at hl 0 rfl) ?_
    refine lv_iconst (v := 4) hx hb dX12_give_173 (by decide) ?_
    refine lv_icmp_ge (tgt := 223) hx hb dX12_give_174 (by decide) (fun _ => ?_) (fun c9 => absurd c9 (by decide))
    refine lv_aload_n hx hb dX12_give_223 rfl (lv_at hl 1 rfl) ?_
    refine va_get (D := E.1) (ci := 12) (v := .ref (q 53)) (C := RX12) (T := TX12) (N := 59) hx hb hts inX12 hown hK hP 0 rfl rfl 53 (by decide) fl136 (fun _ h9 => h9) rfl dX12_give_224 ?_
    refine lv_iload_n hx hb dX12_give_227 rfl (lv_at hl 2 rfl) ?_
    refine lv_iconst (v := (-1)) hx hb dX12_give_228 (by decide) ?_
    refine va_iast hx hb hK hP hD hS 4 0 rfl rfl (show vp_in 1 7 from by unfold vp_in; decide) dX12_give_229 (fun H locs hP hD hS => ?_)
    have hP : va_P E.1 vwCl [(h0, .inr (12, mG q i_taped i_size i_sort i_what i_at i_end i_worth i_faultKind i_faultPlace i_got i_worked (nI dl) i_isPlanned u_102 u_103)), (q 51, .inl (E.2.1 0, 512, .inl a_least)), (q 55, .inl (E.2.1 0, 4, .inl f_116)), (q 54, .inl (E.2.1 0, 7, .inl u_105)), (q 53, .inl (E.2.1 0, 7, .inl (upd u_106 (Int32.toNatClampNeg 1) (-1))))] H := hP
    have hD : va_D A [(h0, .inr (12, mG q i_taped i_size i_sort i_what i_at i_end i_worth i_faultKind i_faultPlace i_got i_worked (nI dl) i_isPlanned u_102 u_103)), (q 51, .inl (E.2.1 0, 512, .inl a_least)), (q 55, .inl (E.2.1 0, 4, .inl f_116)), (q 54, .inl (E.2.1 0, 7, .inl u_105)), (q 53, .inl (E.2.1 0, 7, .inl (upd u_106 (Int32.toNatClampNeg 1) (-1))))] := hD
    obtain ⟨f_118, ef_118⟩ : ∃ g : Nat → Int32, g = upd u_106 (Int32.toNatClampNeg 1) (-1) := ⟨_, rfl⟩
    rw [← ef_118] at hP hD
    refine lv_aload_n hx hb dX12_give_230 rfl (lv_at hl 1 rfl) ?_
    refine lv_iload_n hx hb dX12_give_231 rfl (lv_at hl 2 rfl) ?_
    refine lv_iconst (v := 1) hx hb dX12_give_232 (by decide) ?_
    refine lv_iadd hx hb dX12_give_233 ?_
    refine lv_topi (fun x_119 ex_119 => ?_)
    obtain rfl : x_119 = 2 := ex_119.trans (by decide +kernel)
    have hPc := hP.sub (ws' := [(h0, .inr (12, mG q i_taped i_size i_sort i_what i_at i_end i_worth i_faultKind i_faultPlace i_got i_worked (nI dl) i_isPlanned u_102 u_103)), (q 51, .inl (E.2.1 0, 512, .inl a_least)), (q 55, .inl (E.2.1 0, 4, .inl f_116)), (q 54, .inl (E.2.1 0, 7, .inl u_105)), (q 53, .inl (E.2.1 0, 7, .inl f_118))]) [0, 1, 2, 3, 4] rfl
    have hDc := hD.sub (ws' := [(h0, .inr (12, mG q i_taped i_size i_sort i_what i_at i_end i_worth i_faultKind i_faultPlace i_got i_worked (nI dl) i_isPlanned u_102 u_103)), (q 51, .inl (E.2.1 0, 512, .inl a_least)), (q 55, .inl (E.2.1 0, 4, .inl f_116)), (q 54, .inl (E.2.1 0, 7, .inl u_105)), (q 53, .inl (E.2.1 0, 7, .inl f_118))]) [0, 1, 2, 3, 4] (by decide) rfl
    have hFc := va_free (wc := [(h0, .inr (12, mG q i_taped i_size i_sort i_what i_at i_end i_worth i_faultKind i_faultPlace i_got i_worked (nI dl) i_isPlanned u_102 u_103)), (q 51, .inl (E.2.1 0, 512, .inl a_least)), (q 55, .inl (E.2.1 0, 4, .inl f_116)), (q 54, .inl (E.2.1 0, 7, .inl u_105)), (q 53, .inl (E.2.1 0, 7, .inl f_118))]) hD hS hA [0, 1, 2, 3, 4] rfl
    refine va_callv (va_runV (As := [.int 2]) (rest := []) ⟨hx, hb, hml, hown, hts⟩ (c_X12_give2 l E h0 q i_taped i_size i_sort i_what i_at i_end i_worth i_faultKind i_faultPlace i_got i_worked i_isPlanned u_102 u_103 dl a_least f_116 u_105 f_118 H.size hdl hd2 hI_117) (cwV 1 hts gX12_give_X12_give rfl rfl rfl hdV_X12_give ⟨Nat.le_of_ble_eq_true rfl, Nat.le_of_ble_eq_true rfl⟩) ⟨pcW_blind, va_recv hK hPc (ci := 12) (q0 := 0) rfl rfl, (pcW_pre hPc hkn hDc hst hS hFc)⟩ rfl rfl hl.1 rfl (lv_room (Nat.le_of_ble_eq_true rfl)) dX12_give_234 ⟨Nat.le_of_ble_eq_true rfl, Nat.le_of_ble_eq_true rfl⟩) hS (fun q _ h => hFc q h) hFc (fun u t H1 locs ht hvm hw_121 hB hz1 hk1 hS => ?_)
    obtain ⟨u_122, u_123, u_124, u_125, u_126⟩ := u
    obtain ⟨hf_127, hP1, hD1⟩ := hB
    rw [ht] at hP1
    try dsimp only at hw_121
    obtain ⟨hP, hD⟩ := va_join (wr := []) (w1 := [(h0, .inr (12, mG q i_taped i_size i_sort i_what i_at i_end i_worth i_faultKind i_faultPlace i_got i_worked (nI dl) i_isPlanned u_122 u_123)), (q 51, .inl (E.2.1 0, 512, .inl a_least)), (q 55, .inl (E.2.1 0, 4, .inl u_124)), (q 54, .inl (E.2.1 0, 7, .inl u_125)), (q 53, .inl (E.2.1 0, 7, .inl u_126))]) hP hD [0, 1, 2, 3, 4] [] rfl rfl (by decide) (by decide) hk1 hFc hP1 hD1
    generalize H1 = H at hP hS ⊢
    have hP : va_P E.1 vwCl [(h0, .inr (12, mG q i_taped i_size i_sort i_what i_at i_end i_worth i_faultKind i_faultPlace i_got i_worked (nI dl) i_isPlanned u_122 u_123)), (q 51, .inl (E.2.1 0, 512, .inl a_least)), (q 55, .inl (E.2.1 0, 4, .inl u_124)), (q 54, .inl (E.2.1 0, 7, .inl u_125)), (q 53, .inl (E.2.1 0, 7, .inl u_126))] H := hP
    have hD : va_D A [(h0, .inr (12, mG q i_taped i_size i_sort i_what i_at i_end i_worth i_faultKind i_faultPlace i_got i_worked (nI dl) i_isPlanned u_122 u_123)), (q 51, .inl (E.2.1 0, 512, .inl a_least)), (q 55, .inl (E.2.1 0, 4, .inl u_124)), (q 54, .inl (E.2.1 0, 7, .inl u_125)), (q 53, .inl (E.2.1 0, 7, .inl u_126))] := hD
    have hP9 := hP.sub (ws' := [(h0, .inr (12, mG q i_taped i_size i_sort i_what i_at i_end i_worth i_faultKind i_faultPlace i_got i_worked (nI dl) i_isPlanned u_122 u_123)), (q 51, .inl (E.2.1 0, 512, .inl a_least)), (q 55, .inl (E.2.1 0, 4, .inl u_124)), (q 54, .inl (E.2.1 0, 7, .inl u_125)), (q 53, .inl (E.2.1 0, 7, .inl u_126))]) [0, 1, 2, 3, 4] rfl
    have hD9 := hD.sub (ws' := [(h0, .inr (12, mG q i_taped i_size i_sort i_what i_at i_end i_worth i_faultKind i_faultPlace i_got i_worked (nI dl) i_isPlanned u_122 u_123)), (q 51, .inl (E.2.1 0, 512, .inl a_least)), (q 55, .inl (E.2.1 0, 4, .inl u_124)), (q 54, .inl (E.2.1 0, 7, .inl u_125)), (q 53, .inl (E.2.1 0, 7, .inl u_126))]) [0, 1, 2, 3, 4] (by decide) rfl
    exact W.vret hx hb hr (fun t ht hW => ⟨⟨(u_122, u_123, u_124, u_125, u_126), rfl, trivial, hf_127, by rw [ht]; exact hP9, hD9⟩, hS.F ht⟩) hS.2.2 dX12_give_237
  · refine lv_iconst (v := 0) hx hb dX12_give_8 (by decide) ?_
    refine lv_istore_n (lv' := [(2, .int 0), (0, .ref h0), (1, .int 1)]) hx hb dX12_give_9 rfl hl (by decide) rfl (fun ls hl => ?_)
    refine lv_iconst (v := 0) hx hb dX12_give_10 (by decide) ?_
    refine lv_istore_n (lv' := [(3, .int 0), (2, .int 0), (0, .ref h0), (1, .int 1)]) hx hb dX12_give_11 rfl hl (by decide) rfl (fun ls hl => ?_)
    refine lv_iconst (v := 0) hx hb dX12_give_12 (by decide) ?_
    refine lv_istore (lv' := [(4, .int 0), (3, .int 0), (2, .int 0), (0, .ref h0), (1, .int 1)]) hx hb dX12_give_13 hl (by decide) rfl (fun ls hl => ?_)
    refine lv_iload hx hb dX12_give_15 (lv_at hl 0 rfl) ?_
    refine lv_iconst (v := 4) hx hb dX12_give_17 (by decide) ?_
    refine lv_icmp_ge (tgt := 102) hx hb dX12_give_18 (by decide) (fun c9 => absurd c9 (by decide)) (fun _ => ?_)
    refine lv_aload_n hx hb dX12_give_21 rfl (lv_at hl 3 rfl) ?_
    refine va_get (D := E.1) (ci := 12) (v := .ref (q 51)) (C := RX12) (T := TX12) (N := 59) hx hb hts inX12 hown hK hP 0 rfl rfl 51 (by decide) fl130 (fun _ h9 => h9) rfl dX12_give_22 ?_
    refine lv_sipush (v := 128) hx hb dX12_give_25 (by decide) ?_
    refine lv_iload hx hb dX12_give_28 (lv_at hl 0 rfl) ?_
    refine lv_imul hx hb dX12_give_30 ?_
    refine lv_topi (fun x_128 ex_128 => ?_)
    obtain rfl : x_128 = 0 := ex_128.trans (by decide +kernel)
    refine lv_aload_n hx hb dX12_give_31 rfl (lv_at hl 3 rfl) ?_
    refine va_get (D := E.1) (ci := 12) (v := .ref (q 55)) (C := RX12) (T := TX12) (N := 59) hx hb hts inX12 hown hK hP 0 rfl rfl 55 (by decide) fl142 (fun _ h9 => h9) rfl dX12_give_32 ?_
    refine lv_iload hx hb dX12_give_35 (lv_at hl 0 rfl) ?_
    refine va_iald hx hb hK hP 2 0 rfl rfl (show vp_in 0 4 from by unfold vp_in; decide) dX12_give_37 ?_
    refine lv_topi (fun x_129 ex_129 => ?_)
    have hv_130 : inR x_129 0 127 = true := by rw [ex_129]; exact hI_sets _ (vin_cl (show vp_in 0 4 from by unfold vp_in; decide))
    obtain ⟨w_131, hw_132, ew_133⟩ := inR_nI (n := 127) (by decide) hv_130
    subst ew_133
    refine lv_iadd hx hb dX12_give_38 ?_
    refine lv_topi (fun x_134 ex_134 => ?_)
    obtain rfl : x_134 = nI (0 + w_131) := ex_134.trans (nI_add 0 w_131)
    have hi_135 : vp_in (nI (0 + w_131)) 512 := vp_in_nI (by omega) (by decide)
    refine va_iald hx hb hK hP 1 0 rfl rfl hi_135 dX12_give_39 ?_
    refine lv_topi (fun x_136 ex_136 => ?_)
    refine lv_iconst (v := (-1)) hx hb dX12_give_40 (by decide) ?_
    refine lv_icmp_ne (tgt := 45) hx hb dX12_give_41 (by decide) (fun c_137 => ?_) (fun c_137 => ?_)
    · refine lv_iload_n hx hb dX12_give_45 rfl (lv_at hl 1 rfl) ?_
      refine lv_aload_n hx hb dX12_give_46 rfl (lv_at hl 3 rfl) ?_
      refine va_get (D := E.1) (ci := 12) (v := .ref (q 51)) (C := RX12) (T := TX12) (N := 59) hx hb hts inX12 hown hK hP 0 rfl rfl 51 (by decide) fl130 (fun _ h9 => h9) rfl dX12_give_47 ?_
      refine lv_sipush (v := 128) hx hb dX12_give_50 (by decide) ?_
      refine lv_iload hx hb dX12_give_53 (lv_at hl 0 rfl) ?_
      refine lv_imul hx hb dX12_give_55 ?_
      refine lv_topi (fun x_138 ex_138 => ?_)
      obtain rfl : x_138 = 0 := ex_138.trans (by decide +kernel)
      refine lv_aload_n hx hb dX12_give_56 rfl (lv_at hl 3 rfl) ?_
      refine va_get (D := E.1) (ci := 12) (v := .ref (q 55)) (C := RX12) (T := TX12) (N := 59) hx hb hts inX12 hown hK hP 0 rfl rfl 55 (by decide) fl142 (fun _ h9 => h9) rfl dX12_give_57 ?_
      refine lv_iload hx hb dX12_give_60 (lv_at hl 0 rfl) ?_
      refine va_iald hx hb hK hP 2 0 rfl rfl (show vp_in 0 4 from by unfold vp_in; decide) dX12_give_62 ?_
      refine lv_topi (fun x_139 ex_139 => ?_)
      obtain rfl : x_139 = nI w_131 := ex_139.trans ex_129.symm
      refine lv_iadd hx hb dX12_give_63 ?_
      refine lv_topi (fun x_140 ex_140 => ?_)
      obtain rfl : x_140 = nI (0 + w_131) := ex_140.trans (nI_add 0 w_131)
      refine va_iald hx hb hK hP 1 0 rfl rfl hi_135 dX12_give_64 ?_
      refine lv_topi (fun x_141 ex_141 => ?_)
      refine lv_iadd hx hb dX12_give_65 ?_
      refine lv_topi (fun x_142 ex_142 => ?_)
      refine lv_istore_n (lv' := [(3, .int x_142), (4, .int 0), (2, .int 0), (0, .ref h0), (1, .int 1)]) hx hb dX12_give_66 rfl hl (by decide) rfl (fun ls hl => ?_)
      refine lv_aload_n hx hb dX12_give_67 rfl (lv_at hl 3 rfl) ?_
      refine va_get (D := E.1) (ci := 12) (v := .ref (q 55)) (C := RX12) (T := TX12) (N := 59) hx hb hts inX12 hown hK hP 0 rfl rfl 55 (by decide) fl142 (fun _ h9 => h9) rfl dX12_give_68 ?_
      refine lv_iload hx hb dX12_give_71 (lv_at hl 1 rfl) ?_
      refine va_iald hx hb hK hP 2 0 rfl rfl (show vp_in 0 4 from by unfold vp_in; decide) dX12_give_73 ?_
      refine lv_topi (fun x_143 ex_143 => ?_)
      obtain rfl : x_143 = nI w_131 := ex_143.trans ex_129.symm
      refine lv_istore (lv' := [(5, .int (nI w_131)), (3, .int x_142), (4, .int 0), (2, .int 0), (0, .ref h0), (1, .int 1)]) hx hb dX12_give_74 hl (by decide) rfl (fun ls hl => ?_)
      have hPl := hP.sub (ws' := [(h0, .inr (12, mG q i_taped i_size i_sort i_what i_at i_end i_worth i_faultKind i_faultPlace i_got i_worked (nI dl) i_isPlanned i_bestDone i_bestCost)), (q 51, .inl (E.2.1 0, 512, .inl a_least)), (q 55, .inl (E.2.1 0, 4, .inl a_sets)), (q 54, .inl (E.2.1 0, 7, .inl a_bestGiven)), (q 53, .inl (E.2.1 0, 7, .inl a_given))]) [0, 1, 2, 3, 4] rfl
      have hDl := hD.sub (ws' := [(h0, .inr (12, mG q i_taped i_size i_sort i_what i_at i_end i_worth i_faultKind i_faultPlace i_got i_worked (nI dl) i_isPlanned i_bestDone i_bestCost)), (q 51, .inl (E.2.1 0, 512, .inl a_least)), (q 55, .inl (E.2.1 0, 4, .inl a_sets)), (q 54, .inl (E.2.1 0, 7, .inl a_bestGiven)), (q 53, .inl (E.2.1 0, 7, .inl a_given))]) [0, 1, 2, 3, 4] (by decide) rfl
      refine lm_bits E h0 q i_taped i_size i_sort i_what i_at i_end i_worth i_faultKind i_faultPlace i_got i_worked i_isPlanned i_bestDone i_bestCost dl x_142 0 ([(q 51, .inl (E.2.1 0, 512, .inl a_least)), (q 55, .inl (E.2.1 0, 4, .inl a_sets)), (q 54, .inl (E.2.1 0, 7, .inl a_bestGiven)), (q 53, .inl (E.2.1 0, 7, .inl a_given))]) hx hb hml hown hts hkn hst hA  (fun n_144 H locs ls  hP hD hS hl => ?_) (w_131 + 1) w_131 0 _ _ _ (Nat.lt_succ_self _) hPl hDl hS (lv_sub hl [4, 3, 1, 2, 0] rfl)
      have hP : va_P E.1 vwCl [(h0, .inr (12, mG q i_taped i_size i_sort i_what i_at i_end i_worth i_faultKind i_faultPlace i_got i_worked (nI dl) i_isPlanned i_bestDone i_bestCost)), (q 51, .inl (E.2.1 0, 512, .inl a_least)), (q 55, .inl (E.2.1 0, 4, .inl a_sets)), (q 54, .inl (E.2.1 0, 7, .inl a_bestGiven)), (q 53, .inl (E.2.1 0, 7, .inl a_given))] H := hP
      have hD : va_D A [(h0, .inr (12, mG q i_taped i_size i_sort i_what i_at i_end i_worth i_faultKind i_faultPlace i_got i_worked (nI dl) i_isPlanned i_bestDone i_bestCost)), (q 51, .inl (E.2.1 0, 512, .inl a_least)), (q 55, .inl (E.2.1 0, 4, .inl a_sets)), (q 54, .inl (E.2.1 0, 7, .inl a_bestGiven)), (q 53, .inl (E.2.1 0, 7, .inl a_given))] := hD
      refine lv_iinc (v := 1) (lv' := [(4, .int 1), (0, .ref h0), (2, .int n_144), (3, .int x_142)]) hx hb dX12_give_96 hl (k := 3) rfl (by decide) (by decide) rfl (fun ls hl => ?_)
      refine lv_goto (tgt := 15) hx hb dX12_give_99 (by decide) ?_
      refine lv_iload hx hb dX12_give_15 (lv_at hl 0 rfl) ?_
      refine lv_iconst (v := 4) hx hb dX12_give_17 (by decide) ?_
      refine lv_icmp_ge (tgt := 102) hx hb dX12_give_18 (by decide) (fun c9 => absurd c9 (by decide)) (fun _ => ?_)
      refine lv_aload_n hx hb dX12_give_21 rfl (lv_at hl 1 rfl) ?_
      refine va_get (D := E.1) (ci := 12) (v := .ref (q 51)) (C := RX12) (T := TX12) (N := 59) hx hb hts inX12 hown hK hP 0 rfl rfl 51 (by decide) fl130 (fun _ h9 => h9) rfl dX12_give_22 ?_
      refine lv_sipush (v := 128) hx hb dX12_give_25 (by decide) ?_
      refine lv_iload hx hb dX12_give_28 (lv_at hl 0 rfl) ?_
      refine lv_imul hx hb dX12_give_30 ?_
      refine lv_topi (fun x_145 ex_145 => ?_)
      obtain rfl : x_145 = 128 := ex_145.trans (by decide +kernel)
      refine lv_aload_n hx hb dX12_give_31 rfl (lv_at hl 1 rfl) ?_
      refine va_get (D := E.1) (ci := 12) (v := .ref (q 55)) (C := RX12) (T := TX12) (N := 59) hx hb hts inX12 hown hK hP 0 rfl rfl 55 (by decide) fl142 (fun _ h9 => h9) rfl dX12_give_32 ?_
      refine lv_iload hx hb dX12_give_35 (lv_at hl 0 rfl) ?_
      refine va_iald hx hb hK hP 2 0 rfl rfl (show vp_in 1 4 from by unfold vp_in; decide) dX12_give_37 ?_
      refine lv_topi (fun x_146 ex_146 => ?_)
      have hv_147 : inR x_146 0 127 = true := by rw [ex_146]; exact hI_sets _ (vin_cl (show vp_in 1 4 from by unfold vp_in; decide))
      obtain ⟨w_148, hw_149, ew_150⟩ := inR_nI (n := 127) (by decide) hv_147
      subst ew_150
      refine lv_iadd hx hb dX12_give_38 ?_
      refine lv_topi (fun x_151 ex_151 => ?_)
      obtain rfl : x_151 = nI (128 + w_148) := ex_151.trans (nI_add 128 w_148)
      have hi_152 : vp_in (nI (128 + w_148)) 512 := vp_in_nI (by omega) (by decide)
      refine va_iald hx hb hK hP 1 0 rfl rfl hi_152 dX12_give_39 ?_
      refine lv_topi (fun x_153 ex_153 => ?_)
      refine lv_iconst (v := (-1)) hx hb dX12_give_40 (by decide) ?_
      refine lv_icmp_ne (tgt := 45) hx hb dX12_give_41 (by decide) (fun c_154 => ?_) (fun c_154 => ?_)
      · refine lv_iload_n hx hb dX12_give_45 rfl (lv_at hl 3 rfl) ?_
        refine lv_aload_n hx hb dX12_give_46 rfl (lv_at hl 1 rfl) ?_
        refine va_get (D := E.1) (ci := 12) (v := .ref (q 51)) (C := RX12) (T := TX12) (N := 59) hx hb hts inX12 hown hK hP 0 rfl rfl 51 (by decide) fl130 (fun _ h9 => h9) rfl dX12_give_47 ?_
        refine lv_sipush (v := 128) hx hb dX12_give_50 (by decide) ?_
        refine lv_iload hx hb dX12_give_53 (lv_at hl 0 rfl) ?_
        refine lv_imul hx hb dX12_give_55 ?_
        refine lv_topi (fun x_155 ex_155 => ?_)
        obtain rfl : x_155 = 128 := ex_155.trans (by decide +kernel)
        refine lv_aload_n hx hb dX12_give_56 rfl (lv_at hl 1 rfl) ?_
        refine va_get (D := E.1) (ci := 12) (v := .ref (q 55)) (C := RX12) (T := TX12) (N := 59) hx hb hts inX12 hown hK hP 0 rfl rfl 55 (by decide) fl142 (fun _ h9 => h9) rfl dX12_give_57 ?_
        refine lv_iload hx hb dX12_give_60 (lv_at hl 0 rfl) ?_
        refine va_iald hx hb hK hP 2 0 rfl rfl (show vp_in 1 4 from by unfold vp_in; decide) dX12_give_62 ?_
        refine lv_topi (fun x_156 ex_156 => ?_)
        obtain rfl : x_156 = nI w_148 := ex_156.trans ex_146.symm
        refine lv_iadd hx hb dX12_give_63 ?_
        refine lv_topi (fun x_157 ex_157 => ?_)
        obtain rfl : x_157 = nI (128 + w_148) := ex_157.trans (nI_add 128 w_148)
        refine va_iald hx hb hK hP 1 0 rfl rfl hi_152 dX12_give_64 ?_
        refine lv_topi (fun x_158 ex_158 => ?_)
        refine lv_iadd hx hb dX12_give_65 ?_
        refine lv_topi (fun x_159 ex_159 => ?_)
        refine lv_istore_n (lv' := [(3, .int x_159), (4, .int 1), (0, .ref h0), (2, .int n_144)]) hx hb dX12_give_66 rfl hl (by decide) rfl (fun ls hl => ?_)
        refine lv_aload_n hx hb dX12_give_67 rfl (lv_at hl 2 rfl) ?_
        refine va_get (D := E.1) (ci := 12) (v := .ref (q 55)) (C := RX12) (T := TX12) (N := 59) hx hb hts inX12 hown hK hP 0 rfl rfl 55 (by decide) fl142 (fun _ h9 => h9) rfl dX12_give_68 ?_
        refine lv_iload hx hb dX12_give_71 (lv_at hl 1 rfl) ?_
        refine va_iald hx hb hK hP 2 0 rfl rfl (show vp_in 1 4 from by unfold vp_in; decide) dX12_give_73 ?_
        refine lv_topi (fun x_160 ex_160 => ?_)
        obtain rfl : x_160 = nI w_148 := ex_160.trans ex_146.symm
        refine lv_istore (lv' := [(5, .int (nI w_148)), (3, .int x_159), (4, .int 1), (0, .ref h0), (2, .int n_144)]) hx hb dX12_give_74 hl (by decide) rfl (fun ls hl => ?_)
        have hPl := hP.sub (ws' := [(h0, .inr (12, mG q i_taped i_size i_sort i_what i_at i_end i_worth i_faultKind i_faultPlace i_got i_worked (nI dl) i_isPlanned i_bestDone i_bestCost)), (q 51, .inl (E.2.1 0, 512, .inl a_least)), (q 55, .inl (E.2.1 0, 4, .inl a_sets)), (q 54, .inl (E.2.1 0, 7, .inl a_bestGiven)), (q 53, .inl (E.2.1 0, 7, .inl a_given))]) [0, 1, 2, 3, 4] rfl
        have hDl := hD.sub (ws' := [(h0, .inr (12, mG q i_taped i_size i_sort i_what i_at i_end i_worth i_faultKind i_faultPlace i_got i_worked (nI dl) i_isPlanned i_bestDone i_bestCost)), (q 51, .inl (E.2.1 0, 512, .inl a_least)), (q 55, .inl (E.2.1 0, 4, .inl a_sets)), (q 54, .inl (E.2.1 0, 7, .inl a_bestGiven)), (q 53, .inl (E.2.1 0, 7, .inl a_given))]) [0, 1, 2, 3, 4] (by decide) rfl
        refine lm_bits E h0 q i_taped i_size i_sort i_what i_at i_end i_worth i_faultKind i_faultPlace i_got i_worked i_isPlanned i_bestDone i_bestCost dl x_159 1 ([(q 51, .inl (E.2.1 0, 512, .inl a_least)), (q 55, .inl (E.2.1 0, 4, .inl a_sets)), (q 54, .inl (E.2.1 0, 7, .inl a_bestGiven)), (q 53, .inl (E.2.1 0, 7, .inl a_given))]) hx hb hml hown hts hkn hst hA  (fun n_161 H locs ls  hP hD hS hl => ?_) (w_148 + 1) w_148 n_144 _ _ _ (Nat.lt_succ_self _) hPl hDl hS (lv_sub hl [3, 4, 1, 2, 0] rfl)
        have hP : va_P E.1 vwCl [(h0, .inr (12, mG q i_taped i_size i_sort i_what i_at i_end i_worth i_faultKind i_faultPlace i_got i_worked (nI dl) i_isPlanned i_bestDone i_bestCost)), (q 51, .inl (E.2.1 0, 512, .inl a_least)), (q 55, .inl (E.2.1 0, 4, .inl a_sets)), (q 54, .inl (E.2.1 0, 7, .inl a_bestGiven)), (q 53, .inl (E.2.1 0, 7, .inl a_given))] H := hP
        have hD : va_D A [(h0, .inr (12, mG q i_taped i_size i_sort i_what i_at i_end i_worth i_faultKind i_faultPlace i_got i_worked (nI dl) i_isPlanned i_bestDone i_bestCost)), (q 51, .inl (E.2.1 0, 512, .inl a_least)), (q 55, .inl (E.2.1 0, 4, .inl a_sets)), (q 54, .inl (E.2.1 0, 7, .inl a_bestGiven)), (q 53, .inl (E.2.1 0, 7, .inl a_given))] := hD
        refine lv_iinc (v := 2) (lv' := [(4, .int 2), (0, .ref h0), (2, .int n_161), (3, .int x_159)]) hx hb dX12_give_96 hl (k := 3) rfl (by decide) (by decide) rfl (fun ls hl => ?_)
        refine lv_goto (tgt := 15) hx hb dX12_give_99 (by decide) ?_
        refine lv_iload hx hb dX12_give_15 (lv_at hl 0 rfl) ?_
        refine lv_iconst (v := 4) hx hb dX12_give_17 (by decide) ?_
        refine lv_icmp_ge (tgt := 102) hx hb dX12_give_18 (by decide) (fun c9 => absurd c9 (by decide)) (fun _ => ?_)
        refine lv_aload_n hx hb dX12_give_21 rfl (lv_at hl 1 rfl) ?_
        refine va_get (D := E.1) (ci := 12) (v := .ref (q 51)) (C := RX12) (T := TX12) (N := 59) hx hb hts inX12 hown hK hP 0 rfl rfl 51 (by decide) fl130 (fun _ h9 => h9) rfl dX12_give_22 ?_
        refine lv_sipush (v := 128) hx hb dX12_give_25 (by decide) ?_
        refine lv_iload hx hb dX12_give_28 (lv_at hl 0 rfl) ?_
        refine lv_imul hx hb dX12_give_30 ?_
        refine lv_topi (fun x_162 ex_162 => ?_)
        obtain rfl : x_162 = 256 := ex_162.trans (by decide +kernel)
        refine lv_aload_n hx hb dX12_give_31 rfl (lv_at hl 1 rfl) ?_
        refine va_get (D := E.1) (ci := 12) (v := .ref (q 55)) (C := RX12) (T := TX12) (N := 59) hx hb hts inX12 hown hK hP 0 rfl rfl 55 (by decide) fl142 (fun _ h9 => h9) rfl dX12_give_32 ?_
        refine lv_iload hx hb dX12_give_35 (lv_at hl 0 rfl) ?_
        refine va_iald hx hb hK hP 2 0 rfl rfl (show vp_in 2 4 from by unfold vp_in; decide) dX12_give_37 ?_
        refine lv_topi (fun x_163 ex_163 => ?_)
        have hv_164 : inR x_163 0 127 = true := by rw [ex_163]; exact hI_sets _ (vin_cl (show vp_in 2 4 from by unfold vp_in; decide))
        obtain ⟨w_165, hw_166, ew_167⟩ := inR_nI (n := 127) (by decide) hv_164
        subst ew_167
        refine lv_iadd hx hb dX12_give_38 ?_
        refine lv_topi (fun x_168 ex_168 => ?_)
        obtain rfl : x_168 = nI (256 + w_165) := ex_168.trans (nI_add 256 w_165)
        have hi_169 : vp_in (nI (256 + w_165)) 512 := vp_in_nI (by omega) (by decide)
        refine va_iald hx hb hK hP 1 0 rfl rfl hi_169 dX12_give_39 ?_
        refine lv_topi (fun x_170 ex_170 => ?_)
        refine lv_iconst (v := (-1)) hx hb dX12_give_40 (by decide) ?_
        refine lv_icmp_ne (tgt := 45) hx hb dX12_give_41 (by decide) (fun c_171 => ?_) (fun c_171 => ?_)
        · refine lv_iload_n hx hb dX12_give_45 rfl (lv_at hl 3 rfl) ?_
          refine lv_aload_n hx hb dX12_give_46 rfl (lv_at hl 1 rfl) ?_
          refine va_get (D := E.1) (ci := 12) (v := .ref (q 51)) (C := RX12) (T := TX12) (N := 59) hx hb hts inX12 hown hK hP 0 rfl rfl 51 (by decide) fl130 (fun _ h9 => h9) rfl dX12_give_47 ?_
          refine lv_sipush (v := 128) hx hb dX12_give_50 (by decide) ?_
          refine lv_iload hx hb dX12_give_53 (lv_at hl 0 rfl) ?_
          refine lv_imul hx hb dX12_give_55 ?_
          refine lv_topi (fun x_172 ex_172 => ?_)
          obtain rfl : x_172 = 256 := ex_172.trans (by decide +kernel)
          refine lv_aload_n hx hb dX12_give_56 rfl (lv_at hl 1 rfl) ?_
          refine va_get (D := E.1) (ci := 12) (v := .ref (q 55)) (C := RX12) (T := TX12) (N := 59) hx hb hts inX12 hown hK hP 0 rfl rfl 55 (by decide) fl142 (fun _ h9 => h9) rfl dX12_give_57 ?_
          refine lv_iload hx hb dX12_give_60 (lv_at hl 0 rfl) ?_
          refine va_iald hx hb hK hP 2 0 rfl rfl (show vp_in 2 4 from by unfold vp_in; decide) dX12_give_62 ?_
          refine lv_topi (fun x_173 ex_173 => ?_)
          obtain rfl : x_173 = nI w_165 := ex_173.trans ex_163.symm
          refine lv_iadd hx hb dX12_give_63 ?_
          refine lv_topi (fun x_174 ex_174 => ?_)
          obtain rfl : x_174 = nI (256 + w_165) := ex_174.trans (nI_add 256 w_165)
          refine va_iald hx hb hK hP 1 0 rfl rfl hi_169 dX12_give_64 ?_
          refine lv_topi (fun x_175 ex_175 => ?_)
          refine lv_iadd hx hb dX12_give_65 ?_
          refine lv_topi (fun x_176 ex_176 => ?_)
          refine lv_istore_n (lv' := [(3, .int x_176), (4, .int 2), (0, .ref h0), (2, .int n_161)]) hx hb dX12_give_66 rfl hl (by decide) rfl (fun ls hl => ?_)
          refine lv_aload_n hx hb dX12_give_67 rfl (lv_at hl 2 rfl) ?_
          refine va_get (D := E.1) (ci := 12) (v := .ref (q 55)) (C := RX12) (T := TX12) (N := 59) hx hb hts inX12 hown hK hP 0 rfl rfl 55 (by decide) fl142 (fun _ h9 => h9) rfl dX12_give_68 ?_
          refine lv_iload hx hb dX12_give_71 (lv_at hl 1 rfl) ?_
          refine va_iald hx hb hK hP 2 0 rfl rfl (show vp_in 2 4 from by unfold vp_in; decide) dX12_give_73 ?_
          refine lv_topi (fun x_177 ex_177 => ?_)
          obtain rfl : x_177 = nI w_165 := ex_177.trans ex_163.symm
          refine lv_istore (lv' := [(5, .int (nI w_165)), (3, .int x_176), (4, .int 2), (0, .ref h0), (2, .int n_161)]) hx hb dX12_give_74 hl (by decide) rfl (fun ls hl => ?_)
          have hPl := hP.sub (ws' := [(h0, .inr (12, mG q i_taped i_size i_sort i_what i_at i_end i_worth i_faultKind i_faultPlace i_got i_worked (nI dl) i_isPlanned i_bestDone i_bestCost)), (q 51, .inl (E.2.1 0, 512, .inl a_least)), (q 55, .inl (E.2.1 0, 4, .inl a_sets)), (q 54, .inl (E.2.1 0, 7, .inl a_bestGiven)), (q 53, .inl (E.2.1 0, 7, .inl a_given))]) [0, 1, 2, 3, 4] rfl
          have hDl := hD.sub (ws' := [(h0, .inr (12, mG q i_taped i_size i_sort i_what i_at i_end i_worth i_faultKind i_faultPlace i_got i_worked (nI dl) i_isPlanned i_bestDone i_bestCost)), (q 51, .inl (E.2.1 0, 512, .inl a_least)), (q 55, .inl (E.2.1 0, 4, .inl a_sets)), (q 54, .inl (E.2.1 0, 7, .inl a_bestGiven)), (q 53, .inl (E.2.1 0, 7, .inl a_given))]) [0, 1, 2, 3, 4] (by decide) rfl
          refine lm_bits E h0 q i_taped i_size i_sort i_what i_at i_end i_worth i_faultKind i_faultPlace i_got i_worked i_isPlanned i_bestDone i_bestCost dl x_176 2 ([(q 51, .inl (E.2.1 0, 512, .inl a_least)), (q 55, .inl (E.2.1 0, 4, .inl a_sets)), (q 54, .inl (E.2.1 0, 7, .inl a_bestGiven)), (q 53, .inl (E.2.1 0, 7, .inl a_given))]) hx hb hml hown hts hkn hst hA  (fun n_178 H locs ls  hP hD hS hl => ?_) (w_165 + 1) w_165 n_161 _ _ _ (Nat.lt_succ_self _) hPl hDl hS (lv_sub hl [3, 4, 1, 2, 0] rfl)
          have hP : va_P E.1 vwCl [(h0, .inr (12, mG q i_taped i_size i_sort i_what i_at i_end i_worth i_faultKind i_faultPlace i_got i_worked (nI dl) i_isPlanned i_bestDone i_bestCost)), (q 51, .inl (E.2.1 0, 512, .inl a_least)), (q 55, .inl (E.2.1 0, 4, .inl a_sets)), (q 54, .inl (E.2.1 0, 7, .inl a_bestGiven)), (q 53, .inl (E.2.1 0, 7, .inl a_given))] H := hP
          have hD : va_D A [(h0, .inr (12, mG q i_taped i_size i_sort i_what i_at i_end i_worth i_faultKind i_faultPlace i_got i_worked (nI dl) i_isPlanned i_bestDone i_bestCost)), (q 51, .inl (E.2.1 0, 512, .inl a_least)), (q 55, .inl (E.2.1 0, 4, .inl a_sets)), (q 54, .inl (E.2.1 0, 7, .inl a_bestGiven)), (q 53, .inl (E.2.1 0, 7, .inl a_given))] := hD
          refine lv_iinc (v := 3) (lv' := [(4, .int 3), (0, .ref h0), (2, .int n_178), (3, .int x_176)]) hx hb dX12_give_96 hl (k := 3) rfl (by decide) (by decide) rfl (fun ls hl => ?_)
          refine lv_goto (tgt := 15) hx hb dX12_give_99 (by decide) ?_
          refine lv_iload hx hb dX12_give_15 (lv_at hl 0 rfl) ?_
          refine lv_iconst (v := 4) hx hb dX12_give_17 (by decide) ?_
          refine lv_icmp_ge (tgt := 102) hx hb dX12_give_18 (by decide) (fun c9 => absurd c9 (by decide)) (fun _ => ?_)
          refine lv_aload_n hx hb dX12_give_21 rfl (lv_at hl 1 rfl) ?_
          refine va_get (D := E.1) (ci := 12) (v := .ref (q 51)) (C := RX12) (T := TX12) (N := 59) hx hb hts inX12 hown hK hP 0 rfl rfl 51 (by decide) fl130 (fun _ h9 => h9) rfl dX12_give_22 ?_
          refine lv_sipush (v := 128) hx hb dX12_give_25 (by decide) ?_
          refine lv_iload hx hb dX12_give_28 (lv_at hl 0 rfl) ?_
          refine lv_imul hx hb dX12_give_30 ?_
          refine lv_topi (fun x_179 ex_179 => ?_)
          obtain rfl : x_179 = 384 := ex_179.trans (by decide +kernel)
          refine lv_aload_n hx hb dX12_give_31 rfl (lv_at hl 1 rfl) ?_
          refine va_get (D := E.1) (ci := 12) (v := .ref (q 55)) (C := RX12) (T := TX12) (N := 59) hx hb hts inX12 hown hK hP 0 rfl rfl 55 (by decide) fl142 (fun _ h9 => h9) rfl dX12_give_32 ?_
          refine lv_iload hx hb dX12_give_35 (lv_at hl 0 rfl) ?_
          refine va_iald hx hb hK hP 2 0 rfl rfl (show vp_in 3 4 from by unfold vp_in; decide) dX12_give_37 ?_
          refine lv_topi (fun x_180 ex_180 => ?_)
          have hv_181 : inR x_180 0 127 = true := by rw [ex_180]; exact hI_sets _ (vin_cl (show vp_in 3 4 from by unfold vp_in; decide))
          obtain ⟨w_182, hw_183, ew_184⟩ := inR_nI (n := 127) (by decide) hv_181
          subst ew_184
          refine lv_iadd hx hb dX12_give_38 ?_
          refine lv_topi (fun x_185 ex_185 => ?_)
          obtain rfl : x_185 = nI (384 + w_182) := ex_185.trans (nI_add 384 w_182)
          have hi_186 : vp_in (nI (384 + w_182)) 512 := vp_in_nI (by omega) (by decide)
          refine va_iald hx hb hK hP 1 0 rfl rfl hi_186 dX12_give_39 ?_
          refine lv_topi (fun x_187 ex_187 => ?_)
          refine lv_iconst (v := (-1)) hx hb dX12_give_40 (by decide) ?_
          refine lv_icmp_ne (tgt := 45) hx hb dX12_give_41 (by decide) (fun c_188 => ?_) (fun c_188 => ?_)
          · refine lv_iload_n hx hb dX12_give_45 rfl (lv_at hl 3 rfl) ?_
            refine lv_aload_n hx hb dX12_give_46 rfl (lv_at hl 1 rfl) ?_
            refine va_get (D := E.1) (ci := 12) (v := .ref (q 51)) (C := RX12) (T := TX12) (N := 59) hx hb hts inX12 hown hK hP 0 rfl rfl 51 (by decide) fl130 (fun _ h9 => h9) rfl dX12_give_47 ?_
            refine lv_sipush (v := 128) hx hb dX12_give_50 (by decide) ?_
            refine lv_iload hx hb dX12_give_53 (lv_at hl 0 rfl) ?_
            refine lv_imul hx hb dX12_give_55 ?_
            refine lv_topi (fun x_189 ex_189 => ?_)
            obtain rfl : x_189 = 384 := ex_189.trans (by decide +kernel)
            refine lv_aload_n hx hb dX12_give_56 rfl (lv_at hl 1 rfl) ?_
            refine va_get (D := E.1) (ci := 12) (v := .ref (q 55)) (C := RX12) (T := TX12) (N := 59) hx hb hts inX12 hown hK hP 0 rfl rfl 55 (by decide) fl142 (fun _ h9 => h9) rfl dX12_give_57 ?_
            refine lv_iload hx hb dX12_give_60 (lv_at hl 0 rfl) ?_
            refine va_iald hx hb hK hP 2 0 rfl rfl (show vp_in 3 4 from by unfold vp_in; decide) dX12_give_62 ?_
            refine lv_topi (fun x_190 ex_190 => ?_)
            obtain rfl : x_190 = nI w_182 := ex_190.trans ex_180.symm
            refine lv_iadd hx hb dX12_give_63 ?_
            refine lv_topi (fun x_191 ex_191 => ?_)
            obtain rfl : x_191 = nI (384 + w_182) := ex_191.trans (nI_add 384 w_182)
            refine va_iald hx hb hK hP 1 0 rfl rfl hi_186 dX12_give_64 ?_
            refine lv_topi (fun x_192 ex_192 => ?_)
            refine lv_iadd hx hb dX12_give_65 ?_
            refine lv_topi (fun x_193 ex_193 => ?_)
            refine lv_istore_n (lv' := [(3, .int x_193), (4, .int 3), (0, .ref h0), (2, .int n_178)]) hx hb dX12_give_66 rfl hl (by decide) rfl (fun ls hl => ?_)
            refine lv_aload_n hx hb dX12_give_67 rfl (lv_at hl 2 rfl) ?_
            refine va_get (D := E.1) (ci := 12) (v := .ref (q 55)) (C := RX12) (T := TX12) (N := 59) hx hb hts inX12 hown hK hP 0 rfl rfl 55 (by decide) fl142 (fun _ h9 => h9) rfl dX12_give_68 ?_
            refine lv_iload hx hb dX12_give_71 (lv_at hl 1 rfl) ?_
            refine va_iald hx hb hK hP 2 0 rfl rfl (show vp_in 3 4 from by unfold vp_in; decide) dX12_give_73 ?_
            refine lv_topi (fun x_194 ex_194 => ?_)
            obtain rfl : x_194 = nI w_182 := ex_194.trans ex_180.symm
            refine lv_istore (lv' := [(5, .int (nI w_182)), (3, .int x_193), (4, .int 3), (0, .ref h0), (2, .int n_178)]) hx hb dX12_give_74 hl (by decide) rfl (fun ls hl => ?_)
            have hPl := hP.sub (ws' := [(h0, .inr (12, mG q i_taped i_size i_sort i_what i_at i_end i_worth i_faultKind i_faultPlace i_got i_worked (nI dl) i_isPlanned i_bestDone i_bestCost)), (q 51, .inl (E.2.1 0, 512, .inl a_least)), (q 55, .inl (E.2.1 0, 4, .inl a_sets)), (q 54, .inl (E.2.1 0, 7, .inl a_bestGiven)), (q 53, .inl (E.2.1 0, 7, .inl a_given))]) [0, 1, 2, 3, 4] rfl
            have hDl := hD.sub (ws' := [(h0, .inr (12, mG q i_taped i_size i_sort i_what i_at i_end i_worth i_faultKind i_faultPlace i_got i_worked (nI dl) i_isPlanned i_bestDone i_bestCost)), (q 51, .inl (E.2.1 0, 512, .inl a_least)), (q 55, .inl (E.2.1 0, 4, .inl a_sets)), (q 54, .inl (E.2.1 0, 7, .inl a_bestGiven)), (q 53, .inl (E.2.1 0, 7, .inl a_given))]) [0, 1, 2, 3, 4] (by decide) rfl
            refine lm_bits E h0 q i_taped i_size i_sort i_what i_at i_end i_worth i_faultKind i_faultPlace i_got i_worked i_isPlanned i_bestDone i_bestCost dl x_193 3 ([(q 51, .inl (E.2.1 0, 512, .inl a_least)), (q 55, .inl (E.2.1 0, 4, .inl a_sets)), (q 54, .inl (E.2.1 0, 7, .inl a_bestGiven)), (q 53, .inl (E.2.1 0, 7, .inl a_given))]) hx hb hml hown hts hkn hst hA  (fun n_195 H locs ls  hP hD hS hl => ?_) (w_182 + 1) w_182 n_178 _ _ _ (Nat.lt_succ_self _) hPl hDl hS (lv_sub hl [3, 4, 1, 2, 0] rfl)
            have hP : va_P E.1 vwCl [(h0, .inr (12, mG q i_taped i_size i_sort i_what i_at i_end i_worth i_faultKind i_faultPlace i_got i_worked (nI dl) i_isPlanned i_bestDone i_bestCost)), (q 51, .inl (E.2.1 0, 512, .inl a_least)), (q 55, .inl (E.2.1 0, 4, .inl a_sets)), (q 54, .inl (E.2.1 0, 7, .inl a_bestGiven)), (q 53, .inl (E.2.1 0, 7, .inl a_given))] H := hP
            have hD : va_D A [(h0, .inr (12, mG q i_taped i_size i_sort i_what i_at i_end i_worth i_faultKind i_faultPlace i_got i_worked (nI dl) i_isPlanned i_bestDone i_bestCost)), (q 51, .inl (E.2.1 0, 512, .inl a_least)), (q 55, .inl (E.2.1 0, 4, .inl a_sets)), (q 54, .inl (E.2.1 0, 7, .inl a_bestGiven)), (q 53, .inl (E.2.1 0, 7, .inl a_given))] := hD
            refine lv_iinc (v := 4) (lv' := [(4, .int 4), (0, .ref h0), (2, .int n_195), (3, .int x_193)]) hx hb dX12_give_96 hl (k := 3) rfl (by decide) (by decide) rfl (fun ls hl => ?_)
            refine lv_goto (tgt := 15) hx hb dX12_give_99 (by decide) ?_
            refine lv_iload hx hb dX12_give_15 (lv_at hl 0 rfl) ?_
            refine lv_iconst (v := 4) hx hb dX12_give_17 (by decide) ?_
            refine lv_icmp_ge (tgt := 102) hx hb dX12_give_18 (by decide) (fun _ => ?_) (fun c9 => absurd c9 (by decide))
            refine lv_iload_n hx hb dX12_give_102 rfl (lv_at hl 2 rfl) ?_
            refine lv_aload_n hx hb dX12_give_103 rfl (lv_at hl 1 rfl) ?_
            refine va_get (D := E.1) (ci := 12) (v := .int i_bestDone) (C := RX12) (T := TX12) (N := 59) hx hb hts inX12 hown hK hP 0 rfl rfl 57 (by decide) fl300 (fun _ h9 => h9) rfl dX12_give_104 ?_
            refine lv_icmp_lt (tgt := 126) hx hb dX12_give_107 (by decide) (fun c_196 => ?_) (fun c_196 => ?_)
            · have hP9 := hP.sub (ws' := [(h0, .inr (12, mG q i_taped i_size i_sort i_what i_at i_end i_worth i_faultKind i_faultPlace i_got i_worked (nI dl) i_isPlanned i_bestDone i_bestCost)), (q 51, .inl (E.2.1 0, 512, .inl a_least)), (q 55, .inl (E.2.1 0, 4, .inl a_sets)), (q 54, .inl (E.2.1 0, 7, .inl a_bestGiven)), (q 53, .inl (E.2.1 0, 7, .inl a_given))]) [0, 1, 2, 3, 4] rfl
              have hD9 := hD.sub (ws' := [(h0, .inr (12, mG q i_taped i_size i_sort i_what i_at i_end i_worth i_faultKind i_faultPlace i_got i_worked (nI dl) i_isPlanned i_bestDone i_bestCost)), (q 51, .inl (E.2.1 0, 512, .inl a_least)), (q 55, .inl (E.2.1 0, 4, .inl a_sets)), (q 54, .inl (E.2.1 0, 7, .inl a_bestGiven)), (q 53, .inl (E.2.1 0, 7, .inl a_given))]) [0, 1, 2, 3, 4] (by decide) rfl
              exact W.vret hx hb hr (fun t ht hW => ⟨⟨(i_bestDone, i_bestCost, a_sets, a_bestGiven, a_given), rfl, trivial, hI_sets, by rw [ht]; exact hP9, hD9⟩, hS.F ht⟩) hS.2.2 dX12_give_126
            · refine lv_iload_n hx hb dX12_give_110 rfl (lv_at hl 2 rfl) ?_
              refine lv_aload_n hx hb dX12_give_111 rfl (lv_at hl 1 rfl) ?_
              refine va_get (D := E.1) (ci := 12) (v := .int i_bestDone) (C := RX12) (T := TX12) (N := 59) hx hb hts inX12 hown hK hP 0 rfl rfl 57 (by decide) fl300 (fun _ h9 => h9) rfl dX12_give_112 ?_
              refine lv_icmp_ne (tgt := 127) hx hb dX12_give_115 (by decide) (fun c_197 => ?_) (fun c_197 => ?_)
              · refine lv_aload_n hx hb dX12_give_127 rfl (lv_at hl 1 rfl) ?_
                refine lv_iload_n hx hb dX12_give_128 rfl (lv_at hl 2 rfl) ?_
                refine va_put (D := E.1) (ci := 12) (v := .int n_195) (ty := .int) (C := RX12) (T := TX12) (N := 59) hx hb hts inX12 tyX12 tyX12_ok nmX12 hown hK hP hD hS 0 rfl rfl 57 (by decide) fl300 (fun _ h9 => h9) rfl (by decide +kernel) rfl rfl (Nat.le_of_ble_eq_true rfl) dX12_give_129 (fun H locs hP hD hS => ?_)
                have hP : va_P E.1 vwCl [(h0, .inr (12, mG q i_taped i_size i_sort i_what i_at i_end i_worth i_faultKind i_faultPlace i_got i_worked (nI dl) i_isPlanned n_195 i_bestCost)), (q 51, .inl (E.2.1 0, 512, .inl a_least)), (q 55, .inl (E.2.1 0, 4, .inl a_sets)), (q 54, .inl (E.2.1 0, 7, .inl a_bestGiven)), (q 53, .inl (E.2.1 0, 7, .inl a_given))] H := hP
                have hD : va_D A [(h0, .inr (12, mG q i_taped i_size i_sort i_what i_at i_end i_worth i_faultKind i_faultPlace i_got i_worked (nI dl) i_isPlanned n_195 i_bestCost)), (q 51, .inl (E.2.1 0, 512, .inl a_least)), (q 55, .inl (E.2.1 0, 4, .inl a_sets)), (q 54, .inl (E.2.1 0, 7, .inl a_bestGiven)), (q 53, .inl (E.2.1 0, 7, .inl a_given))] := hD
                refine lv_aload_n hx hb dX12_give_132 rfl (lv_at hl 1 rfl) ?_
                refine lv_iload_n hx hb dX12_give_133 rfl (lv_at hl 3 rfl) ?_
                refine va_put (D := E.1) (ci := 12) (v := .int x_193) (ty := .int) (C := RX12) (T := TX12) (N := 59) hx hb hts inX12 tyX12 tyX12_ok nmX12 hown hK hP hD hS 0 rfl rfl 58 (by decide) fl303 (fun _ h9 => h9) rfl (by decide +kernel) rfl rfl (Nat.le_of_ble_eq_true rfl) dX12_give_134 (fun H locs hP hD hS => ?_)
                have hP : va_P E.1 vwCl [(h0, .inr (12, mG q i_taped i_size i_sort i_what i_at i_end i_worth i_faultKind i_faultPlace i_got i_worked (nI dl) i_isPlanned n_195 x_193)), (q 51, .inl (E.2.1 0, 512, .inl a_least)), (q 55, .inl (E.2.1 0, 4, .inl a_sets)), (q 54, .inl (E.2.1 0, 7, .inl a_bestGiven)), (q 53, .inl (E.2.1 0, 7, .inl a_given))] H := hP
                have hD : va_D A [(h0, .inr (12, mG q i_taped i_size i_sort i_what i_at i_end i_worth i_faultKind i_faultPlace i_got i_worked (nI dl) i_isPlanned n_195 x_193)), (q 51, .inl (E.2.1 0, 512, .inl a_least)), (q 55, .inl (E.2.1 0, 4, .inl a_sets)), (q 54, .inl (E.2.1 0, 7, .inl a_bestGiven)), (q 53, .inl (E.2.1 0, 7, .inl a_given))] := hD
                refine lv_iconst (v := 0) hx hb dX12_give_137 (by decide) ?_
                refine lv_istore (lv' := [(4, .int 0), (0, .ref h0), (2, .int n_195), (3, .int x_193)]) hx hb dX12_give_138 hl (by decide) rfl (fun ls hl => ?_)
                have hPl := hP.sub (ws' := [(h0, .inr (12, mG q i_taped i_size i_sort i_what i_at i_end i_worth i_faultKind i_faultPlace i_got i_worked (nI dl) i_isPlanned n_195 x_193)), (q 53, .inl (E.2.1 0, 7, .inl a_given)), (q 54, .inl (E.2.1 0, 7, .inl a_bestGiven)), (q 51, .inl (E.2.1 0, 512, .inl a_least)), (q 55, .inl (E.2.1 0, 4, .inl a_sets))]) [0, 4, 3, 1, 2] rfl
                have hDl := hD.sub (ws' := [(h0, .inr (12, mG q i_taped i_size i_sort i_what i_at i_end i_worth i_faultKind i_faultPlace i_got i_worked (nI dl) i_isPlanned n_195 x_193)), (q 53, .inl (E.2.1 0, 7, .inl a_given)), (q 54, .inl (E.2.1 0, 7, .inl a_bestGiven)), (q 51, .inl (E.2.1 0, 512, .inl a_least)), (q 55, .inl (E.2.1 0, 4, .inl a_sets))]) [0, 4, 3, 1, 2] (by decide) rfl
                refine lm_copy E h0 q i_taped i_size i_sort i_what i_at i_end i_worth i_faultKind i_faultPlace i_got i_worked i_isPlanned n_195 x_193 dl a_given ([(q 51, .inl (E.2.1 0, 512, .inl a_least)), (q 55, .inl (E.2.1 0, 4, .inl a_sets))]) hx hb hml hown hts hkn hst hA (by omega) (fun n_198 H locs ls  hP hD hS hl => ?_) 9 0 a_bestGiven _ _ _ (by omega) (by omega) hPl hDl hS (lv_sub hl [1, 0] rfl)
                have hP : va_P E.1 vwCl [(h0, .inr (12, mG q i_taped i_size i_sort i_what i_at i_end i_worth i_faultKind i_faultPlace i_got i_worked (nI dl) i_isPlanned n_195 x_193)), (q 53, .inl (E.2.1 0, 7, .inl a_given)), (q 54, .inl (E.2.1 0, 7, .inl n_198)), (q 51, .inl (E.2.1 0, 512, .inl a_least)), (q 55, .inl (E.2.1 0, 4, .inl a_sets))] H := hP
                have hD : va_D A [(h0, .inr (12, mG q i_taped i_size i_sort i_what i_at i_end i_worth i_faultKind i_faultPlace i_got i_worked (nI dl) i_isPlanned n_195 x_193)), (q 53, .inl (E.2.1 0, 7, .inl a_given)), (q 54, .inl (E.2.1 0, 7, .inl n_198)), (q 51, .inl (E.2.1 0, 512, .inl a_least)), (q 55, .inl (E.2.1 0, 4, .inl a_sets))] := hD
                have hP9 := hP.sub (ws' := [(h0, .inr (12, mG q i_taped i_size i_sort i_what i_at i_end i_worth i_faultKind i_faultPlace i_got i_worked (nI dl) i_isPlanned n_195 x_193)), (q 51, .inl (E.2.1 0, 512, .inl a_least)), (q 55, .inl (E.2.1 0, 4, .inl a_sets)), (q 54, .inl (E.2.1 0, 7, .inl n_198)), (q 53, .inl (E.2.1 0, 7, .inl a_given))]) [0, 3, 4, 2, 1] rfl
                have hD9 := hD.sub (ws' := [(h0, .inr (12, mG q i_taped i_size i_sort i_what i_at i_end i_worth i_faultKind i_faultPlace i_got i_worked (nI dl) i_isPlanned n_195 x_193)), (q 51, .inl (E.2.1 0, 512, .inl a_least)), (q 55, .inl (E.2.1 0, 4, .inl a_sets)), (q 54, .inl (E.2.1 0, 7, .inl n_198)), (q 53, .inl (E.2.1 0, 7, .inl a_given))]) [0, 3, 4, 2, 1] (by decide) rfl
                exact W.vret hx hb hr (fun t ht hW => ⟨⟨(n_195, x_193, a_sets, n_198, a_given), rfl, trivial, hI_sets, by rw [ht]; exact hP9, hD9⟩, hS.F ht⟩) hS.2.2 dX12_give_169
              · refine lv_iload_n hx hb dX12_give_118 rfl (lv_at hl 3 rfl) ?_
                refine lv_aload_n hx hb dX12_give_119 rfl (lv_at hl 1 rfl) ?_
                refine va_get (D := E.1) (ci := 12) (v := .int i_bestCost) (C := RX12) (T := TX12) (N := 59) hx hb hts inX12 hown hK hP 0 rfl rfl 58 (by decide) fl303 (fun _ h9 => h9) rfl dX12_give_120 ?_
                refine lv_icmp_lt (tgt := 127) hx hb dX12_give_123 (by decide) (fun c_199 => ?_) (fun c_199 => ?_)
                · refine lv_aload_n hx hb dX12_give_127 rfl (lv_at hl 1 rfl) ?_
                  refine lv_iload_n hx hb dX12_give_128 rfl (lv_at hl 2 rfl) ?_
                  refine va_put (D := E.1) (ci := 12) (v := .int n_195) (ty := .int) (C := RX12) (T := TX12) (N := 59) hx hb hts inX12 tyX12 tyX12_ok nmX12 hown hK hP hD hS 0 rfl rfl 57 (by decide) fl300 (fun _ h9 => h9) rfl (by decide +kernel) rfl rfl (Nat.le_of_ble_eq_true rfl) dX12_give_129 (fun H locs hP hD hS => ?_)
                  have hP : va_P E.1 vwCl [(h0, .inr (12, mG q i_taped i_size i_sort i_what i_at i_end i_worth i_faultKind i_faultPlace i_got i_worked (nI dl) i_isPlanned n_195 i_bestCost)), (q 51, .inl (E.2.1 0, 512, .inl a_least)), (q 55, .inl (E.2.1 0, 4, .inl a_sets)), (q 54, .inl (E.2.1 0, 7, .inl a_bestGiven)), (q 53, .inl (E.2.1 0, 7, .inl a_given))] H := hP
                  have hD : va_D A [(h0, .inr (12, mG q i_taped i_size i_sort i_what i_at i_end i_worth i_faultKind i_faultPlace i_got i_worked (nI dl) i_isPlanned n_195 i_bestCost)), (q 51, .inl (E.2.1 0, 512, .inl a_least)), (q 55, .inl (E.2.1 0, 4, .inl a_sets)), (q 54, .inl (E.2.1 0, 7, .inl a_bestGiven)), (q 53, .inl (E.2.1 0, 7, .inl a_given))] := hD
                  refine lv_aload_n hx hb dX12_give_132 rfl (lv_at hl 1 rfl) ?_
                  refine lv_iload_n hx hb dX12_give_133 rfl (lv_at hl 3 rfl) ?_
                  refine va_put (D := E.1) (ci := 12) (v := .int x_193) (ty := .int) (C := RX12) (T := TX12) (N := 59) hx hb hts inX12 tyX12 tyX12_ok nmX12 hown hK hP hD hS 0 rfl rfl 58 (by decide) fl303 (fun _ h9 => h9) rfl (by decide +kernel) rfl rfl (Nat.le_of_ble_eq_true rfl) dX12_give_134 (fun H locs hP hD hS => ?_)
                  have hP : va_P E.1 vwCl [(h0, .inr (12, mG q i_taped i_size i_sort i_what i_at i_end i_worth i_faultKind i_faultPlace i_got i_worked (nI dl) i_isPlanned n_195 x_193)), (q 51, .inl (E.2.1 0, 512, .inl a_least)), (q 55, .inl (E.2.1 0, 4, .inl a_sets)), (q 54, .inl (E.2.1 0, 7, .inl a_bestGiven)), (q 53, .inl (E.2.1 0, 7, .inl a_given))] H := hP
                  have hD : va_D A [(h0, .inr (12, mG q i_taped i_size i_sort i_what i_at i_end i_worth i_faultKind i_faultPlace i_got i_worked (nI dl) i_isPlanned n_195 x_193)), (q 51, .inl (E.2.1 0, 512, .inl a_least)), (q 55, .inl (E.2.1 0, 4, .inl a_sets)), (q 54, .inl (E.2.1 0, 7, .inl a_bestGiven)), (q 53, .inl (E.2.1 0, 7, .inl a_given))] := hD
                  refine lv_iconst (v := 0) hx hb dX12_give_137 (by decide) ?_
                  refine lv_istore (lv' := [(4, .int 0), (0, .ref h0), (2, .int n_195), (3, .int x_193)]) hx hb dX12_give_138 hl (by decide) rfl (fun ls hl => ?_)
                  have hPl := hP.sub (ws' := [(h0, .inr (12, mG q i_taped i_size i_sort i_what i_at i_end i_worth i_faultKind i_faultPlace i_got i_worked (nI dl) i_isPlanned n_195 x_193)), (q 53, .inl (E.2.1 0, 7, .inl a_given)), (q 54, .inl (E.2.1 0, 7, .inl a_bestGiven)), (q 51, .inl (E.2.1 0, 512, .inl a_least)), (q 55, .inl (E.2.1 0, 4, .inl a_sets))]) [0, 4, 3, 1, 2] rfl
                  have hDl := hD.sub (ws' := [(h0, .inr (12, mG q i_taped i_size i_sort i_what i_at i_end i_worth i_faultKind i_faultPlace i_got i_worked (nI dl) i_isPlanned n_195 x_193)), (q 53, .inl (E.2.1 0, 7, .inl a_given)), (q 54, .inl (E.2.1 0, 7, .inl a_bestGiven)), (q 51, .inl (E.2.1 0, 512, .inl a_least)), (q 55, .inl (E.2.1 0, 4, .inl a_sets))]) [0, 4, 3, 1, 2] (by decide) rfl
                  refine lm_copy E h0 q i_taped i_size i_sort i_what i_at i_end i_worth i_faultKind i_faultPlace i_got i_worked i_isPlanned n_195 x_193 dl a_given ([(q 51, .inl (E.2.1 0, 512, .inl a_least)), (q 55, .inl (E.2.1 0, 4, .inl a_sets))]) hx hb hml hown hts hkn hst hA (by omega) (fun n_200 H locs ls  hP hD hS hl => ?_) 9 0 a_bestGiven _ _ _ (by omega) (by omega) hPl hDl hS (lv_sub hl [1, 0] rfl)
                  have hP : va_P E.1 vwCl [(h0, .inr (12, mG q i_taped i_size i_sort i_what i_at i_end i_worth i_faultKind i_faultPlace i_got i_worked (nI dl) i_isPlanned n_195 x_193)), (q 53, .inl (E.2.1 0, 7, .inl a_given)), (q 54, .inl (E.2.1 0, 7, .inl n_200)), (q 51, .inl (E.2.1 0, 512, .inl a_least)), (q 55, .inl (E.2.1 0, 4, .inl a_sets))] H := hP
                  have hD : va_D A [(h0, .inr (12, mG q i_taped i_size i_sort i_what i_at i_end i_worth i_faultKind i_faultPlace i_got i_worked (nI dl) i_isPlanned n_195 x_193)), (q 53, .inl (E.2.1 0, 7, .inl a_given)), (q 54, .inl (E.2.1 0, 7, .inl n_200)), (q 51, .inl (E.2.1 0, 512, .inl a_least)), (q 55, .inl (E.2.1 0, 4, .inl a_sets))] := hD
                  have hP9 := hP.sub (ws' := [(h0, .inr (12, mG q i_taped i_size i_sort i_what i_at i_end i_worth i_faultKind i_faultPlace i_got i_worked (nI dl) i_isPlanned n_195 x_193)), (q 51, .inl (E.2.1 0, 512, .inl a_least)), (q 55, .inl (E.2.1 0, 4, .inl a_sets)), (q 54, .inl (E.2.1 0, 7, .inl n_200)), (q 53, .inl (E.2.1 0, 7, .inl a_given))]) [0, 3, 4, 2, 1] rfl
                  have hD9 := hD.sub (ws' := [(h0, .inr (12, mG q i_taped i_size i_sort i_what i_at i_end i_worth i_faultKind i_faultPlace i_got i_worked (nI dl) i_isPlanned n_195 x_193)), (q 51, .inl (E.2.1 0, 512, .inl a_least)), (q 55, .inl (E.2.1 0, 4, .inl a_sets)), (q 54, .inl (E.2.1 0, 7, .inl n_200)), (q 53, .inl (E.2.1 0, 7, .inl a_given))]) [0, 3, 4, 2, 1] (by decide) rfl
                  exact W.vret hx hb hr (fun t ht hW => ⟨⟨(n_195, x_193, a_sets, n_200, a_given), rfl, trivial, hI_sets, by rw [ht]; exact hP9, hD9⟩, hS.F ht⟩) hS.2.2 dX12_give_169
                · have hP9 := hP.sub (ws' := [(h0, .inr (12, mG q i_taped i_size i_sort i_what i_at i_end i_worth i_faultKind i_faultPlace i_got i_worked (nI dl) i_isPlanned i_bestDone i_bestCost)), (q 51, .inl (E.2.1 0, 512, .inl a_least)), (q 55, .inl (E.2.1 0, 4, .inl a_sets)), (q 54, .inl (E.2.1 0, 7, .inl a_bestGiven)), (q 53, .inl (E.2.1 0, 7, .inl a_given))]) [0, 1, 2, 3, 4] rfl
                  have hD9 := hD.sub (ws' := [(h0, .inr (12, mG q i_taped i_size i_sort i_what i_at i_end i_worth i_faultKind i_faultPlace i_got i_worked (nI dl) i_isPlanned i_bestDone i_bestCost)), (q 51, .inl (E.2.1 0, 512, .inl a_least)), (q 55, .inl (E.2.1 0, 4, .inl a_sets)), (q 54, .inl (E.2.1 0, 7, .inl a_bestGiven)), (q 53, .inl (E.2.1 0, 7, .inl a_given))]) [0, 1, 2, 3, 4] (by decide) rfl
                  exact W.vret hx hb hr (fun t ht hW => ⟨⟨(i_bestDone, i_bestCost, a_sets, a_bestGiven, a_given), rfl, trivial, hI_sets, by rw [ht]; exact hP9, hD9⟩, hS.F ht⟩) hS.2.2 dX12_give_126
          · have hP9 := hP.sub (ws' := [(h0, .inr (12, mG q i_taped i_size i_sort i_what i_at i_end i_worth i_faultKind i_faultPlace i_got i_worked (nI dl) i_isPlanned i_bestDone i_bestCost)), (q 51, .inl (E.2.1 0, 512, .inl a_least)), (q 55, .inl (E.2.1 0, 4, .inl a_sets)), (q 54, .inl (E.2.1 0, 7, .inl a_bestGiven)), (q 53, .inl (E.2.1 0, 7, .inl a_given))]) [0, 1, 2, 3, 4] rfl
            have hD9 := hD.sub (ws' := [(h0, .inr (12, mG q i_taped i_size i_sort i_what i_at i_end i_worth i_faultKind i_faultPlace i_got i_worked (nI dl) i_isPlanned i_bestDone i_bestCost)), (q 51, .inl (E.2.1 0, 512, .inl a_least)), (q 55, .inl (E.2.1 0, 4, .inl a_sets)), (q 54, .inl (E.2.1 0, 7, .inl a_bestGiven)), (q 53, .inl (E.2.1 0, 7, .inl a_given))]) [0, 1, 2, 3, 4] (by decide) rfl
            exact W.vret hx hb hr (fun t ht hW => ⟨⟨(i_bestDone, i_bestCost, a_sets, a_bestGiven, a_given), rfl, trivial, hI_sets, by rw [ht]; exact hP9, hD9⟩, hS.F ht⟩) hS.2.2 dX12_give_44
        · have hP9 := hP.sub (ws' := [(h0, .inr (12, mG q i_taped i_size i_sort i_what i_at i_end i_worth i_faultKind i_faultPlace i_got i_worked (nI dl) i_isPlanned i_bestDone i_bestCost)), (q 51, .inl (E.2.1 0, 512, .inl a_least)), (q 55, .inl (E.2.1 0, 4, .inl a_sets)), (q 54, .inl (E.2.1 0, 7, .inl a_bestGiven)), (q 53, .inl (E.2.1 0, 7, .inl a_given))]) [0, 1, 2, 3, 4] rfl
          have hD9 := hD.sub (ws' := [(h0, .inr (12, mG q i_taped i_size i_sort i_what i_at i_end i_worth i_faultKind i_faultPlace i_got i_worked (nI dl) i_isPlanned i_bestDone i_bestCost)), (q 51, .inl (E.2.1 0, 512, .inl a_least)), (q 55, .inl (E.2.1 0, 4, .inl a_sets)), (q 54, .inl (E.2.1 0, 7, .inl a_bestGiven)), (q 53, .inl (E.2.1 0, 7, .inl a_given))]) [0, 1, 2, 3, 4] (by decide) rfl
          exact W.vret hx hb hr (fun t ht hW => ⟨⟨(i_bestDone, i_bestCost, a_sets, a_bestGiven, a_given), rfl, trivial, hI_sets, by rw [ht]; exact hP9, hD9⟩, hS.F ht⟩) hS.2.2 dX12_give_44
      · have hP9 := hP.sub (ws' := [(h0, .inr (12, mG q i_taped i_size i_sort i_what i_at i_end i_worth i_faultKind i_faultPlace i_got i_worked (nI dl) i_isPlanned i_bestDone i_bestCost)), (q 51, .inl (E.2.1 0, 512, .inl a_least)), (q 55, .inl (E.2.1 0, 4, .inl a_sets)), (q 54, .inl (E.2.1 0, 7, .inl a_bestGiven)), (q 53, .inl (E.2.1 0, 7, .inl a_given))]) [0, 1, 2, 3, 4] rfl
        have hD9 := hD.sub (ws' := [(h0, .inr (12, mG q i_taped i_size i_sort i_what i_at i_end i_worth i_faultKind i_faultPlace i_got i_worked (nI dl) i_isPlanned i_bestDone i_bestCost)), (q 51, .inl (E.2.1 0, 512, .inl a_least)), (q 55, .inl (E.2.1 0, 4, .inl a_sets)), (q 54, .inl (E.2.1 0, 7, .inl a_bestGiven)), (q 53, .inl (E.2.1 0, 7, .inl a_given))]) [0, 1, 2, 3, 4] (by decide) rfl
        exact W.vret hx hb hr (fun t ht hW => ⟨⟨(i_bestDone, i_bestCost, a_sets, a_bestGiven, a_given), rfl, trivial, hI_sets, by rw [ht]; exact hP9, hD9⟩, hS.F ht⟩) hS.2.2 dX12_give_44
    · have hP9 := hP.sub (ws' := [(h0, .inr (12, mG q i_taped i_size i_sort i_what i_at i_end i_worth i_faultKind i_faultPlace i_got i_worked (nI dl) i_isPlanned i_bestDone i_bestCost)), (q 51, .inl (E.2.1 0, 512, .inl a_least)), (q 55, .inl (E.2.1 0, 4, .inl a_sets)), (q 54, .inl (E.2.1 0, 7, .inl a_bestGiven)), (q 53, .inl (E.2.1 0, 7, .inl a_given))]) [0, 1, 2, 3, 4] rfl
      have hD9 := hD.sub (ws' := [(h0, .inr (12, mG q i_taped i_size i_sort i_what i_at i_end i_worth i_faultKind i_faultPlace i_got i_worked (nI dl) i_isPlanned i_bestDone i_bestCost)), (q 51, .inl (E.2.1 0, 512, .inl a_least)), (q 55, .inl (E.2.1 0, 4, .inl a_sets)), (q 54, .inl (E.2.1 0, 7, .inl a_bestGiven)), (q 53, .inl (E.2.1 0, 7, .inl a_given))]) [0, 1, 2, 3, 4] (by decide) rfl
      exact W.vret hx hb hr (fun t ht hW => ⟨⟨(i_bestDone, i_bestCost, a_sets, a_bestGiven, a_given), rfl, trivial, hI_sets, by rw [ht]; exact hP9, hD9⟩, hS.F ht⟩) hS.2.2 dX12_give_44
set_option maxHeartbeats 4000000 in
set_option maxRecDepth 100000 in
theorem c_X12_give0 (l : Launch) (E : vE) (h0 : Nat) (q : Nat → Nat) (i_taped : Int32) (i_size : Int32) (i_sort : Int32) (i_what : Int32) (i_at : Int32) (i_end : Int32) (i_worth : Int32) (i_faultKind : Int32) (i_faultPlace : Int32) (i_got : Int32) (i_worked : Int32) (i_isPlanned : Int32) (i_bestDone : Int32) (i_bestCost : Int32) (dl : Nat) (a_least : Nat → Int32) (a_sets : Nat → Int32) (a_bestGiven : Nat → Int32) (a_given : Nat → Int32) (sz : Nat) (hdl : dl ≤ 7) (hd : 0 ≤ dl) (hI_sets : ∀ k : Nat, k < 4 → inR (a_sets k) 0 127 = true) : Met l yX12_give wsX12_give ({ frames := 7, cells := 0, slots := 0, locals := 175 }) (pcW E [.ref h0, .int 0] sz [(h0, .inr (12, mG q i_taped i_size i_sort i_what i_at i_end i_worth i_faultKind i_faultPlace i_got i_worked (nI dl) i_isPlanned i_bestDone i_bestCost)), (q 51, .inl (E.2.1 0, 512, .inl a_least)), (q 55, .inl (E.2.1 0, 4, .inl a_sets)), (q 54, .inl (E.2.1 0, 7, .inl a_bestGiven)), (q 53, .inl (E.2.1 0, 7, .inl a_given))]) (va_Qv (fun (u : Int32 × Int32 × (Nat → Int32) × (Nat → Int32) × (Nat → Int32)) => match u with | (bd2, bc2, b_sets, b_bestGiven, b_given) => True) (fun (u : Int32 × Int32 × (Nat → Int32) × (Nat → Int32) × (Nat → Int32)) (t : State) => match u with | (bd2, bc2, b_sets, b_bestGiven, b_given) => (∀ k : Nat, k < 4 → inR (b_sets k) 0 127 = true) ∧ wB E (va_A [(h0, .inr (12, mG q i_taped i_size i_sort i_what i_at i_end i_worth i_faultKind i_faultPlace i_got i_worked (nI dl) i_isPlanned i_bestDone i_bestCost)), (q 51, .inl (E.2.1 0, 512, .inl a_least)), (q 55, .inl (E.2.1 0, 4, .inl a_sets)), (q 54, .inl (E.2.1 0, 7, .inl a_bestGiven)), (q 53, .inl (E.2.1 0, 7, .inl a_given))] sz) [(h0, .inr (12, mG q i_taped i_size i_sort i_what i_at i_end i_worth i_faultKind i_faultPlace i_got i_worked (nI dl) i_isPlanned bd2 bc2)), (q 51, .inl (E.2.1 0, 512, .inl a_least)), (q 55, .inl (E.2.1 0, 4, .inl b_sets)), (q 54, .inl (E.2.1 0, 7, .inl b_bestGiven)), (q 53, .inl (E.2.1 0, 7, .inl b_given))] t) (va_A [(h0, .inr (12, mG q i_taped i_size i_sort i_what i_at i_end i_worth i_faultKind i_faultPlace i_got i_worked (nI dl) i_isPlanned i_bestDone i_bestCost)), (q 51, .inl (E.2.1 0, 512, .inl a_least)), (q 55, .inl (E.2.1 0, 4, .inl a_sets)), (q 54, .inl (E.2.1 0, 7, .inl a_bestGiven)), (q 53, .inl (E.2.1 0, 7, .inl a_given))] sz)) 0 0 (va_A [(h0, .inr (12, mG q i_taped i_size i_sort i_what i_at i_end i_worth i_faultKind i_faultPlace i_got i_worked (nI dl) i_isPlanned i_bestDone i_bestCost)), (q 51, .inl (E.2.1 0, 512, .inl a_least)), (q 55, .inl (E.2.1 0, 4, .inl a_sets)), (q 54, .inl (E.2.1 0, 7, .inl a_bestGiven)), (q 53, .inl (E.2.1 0, 7, .inl a_given))] sz) := by
  refine Met.ofW (cc := cX12_give) (maxL := 6) (ret := none) (by decide) rfl ?_
  intro p e s m args below meth c s₁ B hml hv
  obtain ⟨rfl, hsz, hP, hkn, hD0, hst⟩ := hv
  have hx := B.exec
  have hb := B.bytes
  have hr := B.returns
  have hts := atoms_spec (ws := wsX12_give) B.pre
  have hown : s.vm.findClass RX12 = some m.cls := findClass_of_methodNamed B.named
  have hlocks := B.notSynchronized
  subst hsz
  have hD := hD0.self (sz := s.heap.size)
  have hK := hkn.1
  have hAO := hkn.2.2.1
  generalize hAe : va_A [(h0, .inr (12, mG q i_taped i_size i_sort i_what i_at i_end i_worth i_faultKind i_faultPlace i_got i_worked (nI dl) i_isPlanned i_bestDone i_bestCost)), (q 51, .inl (E.2.1 0, 512, .inl a_least)), (q 55, .inl (E.2.1 0, 4, .inl a_sets)), (q 54, .inl (E.2.1 0, 7, .inl a_bestGiven)), (q 53, .inl (E.2.1 0, 7, .inl a_given))] s.heap.size = A at hD hst ⊢
  have hA : ∀ q : Nat, s.heap.size ≤ q → A q := fun q h => by rw [← hAe]; exact Or.inr h
  have hS : va_S A s.heap s.heap [] := va_S.rf
  have hP : va_P E.1 vwCl [(h0, .inr (12, mG q i_taped i_size i_sort i_what i_at i_end i_worth i_faultKind i_faultPlace i_got i_worked (nI dl) i_isPlanned i_bestDone i_bestCost)), (q 51, .inl (E.2.1 0, 512, .inl a_least)), (q 55, .inl (E.2.1 0, 4, .inl a_sets)), (q 54, .inl (E.2.1 0, 7, .inl a_bestGiven)), (q 53, .inl (E.2.1 0, 7, .inl a_given))] s.heap := hP
  have hl := lv_entry ([.ref h0, .int 0]) (n := 6) (Nat.le_of_ble_eq_true rfl)
  rw [lg_entry_eq]
  generalize (lg_sl ([.ref h0, .int 0]) ++ List.replicate (6 - (lg_sl ([.ref h0, .int 0])).length) Slot.unset).toArray = ls at hl ⊢
  have hl : lv_has ls 6 [(0, .ref h0), (1, .int 0)] := hl
  have fl130 := hts (.fieldLink RX12 130 "BoatsHomeModel" "least" "[I") (by first | exact List.mem_of_getElem? (i := 2) rfl | decide +kernel)
  have fl136 := hts (.fieldLink RX12 136 "BoatsHomeModel" "given" "[I") (by first | exact List.mem_of_getElem? (i := 7) rfl | decide +kernel)
  have fl139 := hts (.fieldLink RX12 139 "BoatsHomeModel" "bestGiven" "[I") (by first | exact List.mem_of_getElem? (i := 6) rfl | decide +kernel)
  have fl142 := hts (.fieldLink RX12 142 "BoatsHomeModel" "sets" "[I") (by first | exact List.mem_of_getElem? (i := 3) rfl | decide +kernel)
  have fl289 := hts (.fieldLink RX12 289 "BoatsHomeModel" "deliveries" "I") (by first | exact List.mem_of_getElem? (i := 1) rfl | decide +kernel)
  have fl300 := hts (.fieldLink RX12 300 "BoatsHomeModel" "bestDone" "I") (by first | exact List.mem_of_getElem? (i := 4) rfl | decide +kernel)
  have fl303 := hts (.fieldLink RX12 303 "BoatsHomeModel" "bestCost" "I") (by first | exact List.mem_of_getElem? (i := 5) rfl | decide +kernel)
  have inX12 : ∀ w ∈ u_ws RX12 TX12 59, w ∈ wsX12_give := by first | exact fun w h9 => (List.mem_cons_of_mem _ (List.mem_append_right _ h9)) | decide +kernel
  refine lv_iload_n hx hb dX12_give_0 rfl (lv_at hl 1 rfl) ?_
  refine lv_aload_n hx hb dX12_give_1 rfl (lv_at hl 0 rfl) ?_
  refine va_get (D := E.1) (ci := 12) (v := .int (nI dl)) (C := RX12) (T := TX12) (N := 59) hx hb hts inX12 hown hK hP 0 rfl rfl 41 (by decide) fl289 (fun _ h9 => h9) rfl dX12_give_2 ?_
  refine lv_icmp_ne (tgt := 170) hx hb dX12_give_5 (by decide) (fun c_1 => ?_) (fun c_1 => ?_)
  · have hd2 : 0 + 1 ≤ dl := by
      rcases Nat.lt_or_ge 0 dl with q | q
      · exact q
      · exact absurd (by rw [show dl = 0 by omega]; rfl) c_1
    refine lv_iconst (v := 0) hx hb dX12_give_170 (by decide) ?_
    refine lv_istore_n (lv' := [(2, .int 0), (0, .ref h0), (1, .int 0)]) hx hb dX12_give_171 rfl hl (by decide) rfl (fun ls hl => ?_)
    refine lv_iload_n hx hb dX12_give_172 rfl (lv_at hl 0 rfl) ?_
    refine lv_iconst (v := 4) hx hb dX12_give_173 (by decide) ?_
    refine lv_icmp_ge (tgt := 223) hx hb dX12_give_174 (by decide) (fun c9 => absurd c9 (by decide)) (fun _ => ?_)
    refine lv_aload_n hx hb dX12_give_177 rfl (lv_at hl 1 rfl) ?_
    refine va_get (D := E.1) (ci := 12) (v := .ref (q 53)) (C := RX12) (T := TX12) (N := 59) hx hb hts inX12 hown hK hP 0 rfl rfl 53 (by decide) fl136 (fun _ h9 => h9) rfl dX12_give_178 ?_
    refine lv_iload_n hx hb dX12_give_181 rfl (lv_at hl 2 rfl) ?_
    refine lv_iload_n hx hb dX12_give_182 rfl (lv_at hl 0 rfl) ?_
    refine va_iast hx hb hK hP hD hS 4 0 rfl rfl (show vp_in 0 7 from by unfold vp_in; decide) dX12_give_183 (fun H locs hP hD hS => ?_)
    have hP : va_P E.1 vwCl [(h0, .inr (12, mG q i_taped i_size i_sort i_what i_at i_end i_worth i_faultKind i_faultPlace i_got i_worked (nI dl) i_isPlanned i_bestDone i_bestCost)), (q 51, .inl (E.2.1 0, 512, .inl a_least)), (q 55, .inl (E.2.1 0, 4, .inl a_sets)), (q 54, .inl (E.2.1 0, 7, .inl a_bestGiven)), (q 53, .inl (E.2.1 0, 7, .inl (upd a_given (Int32.toNatClampNeg 0) 0)))] H := hP
    have hD : va_D A [(h0, .inr (12, mG q i_taped i_size i_sort i_what i_at i_end i_worth i_faultKind i_faultPlace i_got i_worked (nI dl) i_isPlanned i_bestDone i_bestCost)), (q 51, .inl (E.2.1 0, 512, .inl a_least)), (q 55, .inl (E.2.1 0, 4, .inl a_sets)), (q 54, .inl (E.2.1 0, 7, .inl a_bestGiven)), (q 53, .inl (E.2.1 0, 7, .inl (upd a_given (Int32.toNatClampNeg 0) 0)))] := hD
    obtain ⟨f_2, ef_2⟩ : ∃ g : Nat → Int32, g = upd a_given (Int32.toNatClampNeg 0) 0 := ⟨_, rfl⟩
    rw [← ef_2] at hP hD
    refine lv_aload_n hx hb dX12_give_184 rfl (lv_at hl 1 rfl) ?_
    refine va_get (D := E.1) (ci := 12) (v := .ref (q 55)) (C := RX12) (T := TX12) (N := 59) hx hb hts inX12 hown hK hP 0 rfl rfl 55 (by decide) fl142 (fun _ h9 => h9) rfl dX12_give_185 ?_
    refine lv_iload_n hx hb dX12_give_188 rfl (lv_at hl 0 rfl) ?_
    refine lv_dup2_11 hx hb dX12_give_189 rfl rfl ?_
    refine va_iald hx hb hK hP 2 0 rfl rfl (show vp_in 0 4 from by unfold vp_in; decide) dX12_give_190 ?_
    refine lv_topi (fun x_3 ex_3 => ?_)
    have hv_4 : inR x_3 0 127 = true := by rw [ex_3]; exact hI_sets _ (vin_cl (show vp_in 0 4 from by unfold vp_in; decide))
    obtain ⟨w_5, hw_6, ew_7⟩ := inR_nI (n := 127) (by decide) hv_4
    subst ew_7
    refine lv_iconst (v := 1) hx hb dX12_give_191 (by decide) ?_
    refine lv_iload_n hx hb dX12_give_192 rfl (lv_at hl 2 rfl) ?_
    refine lv_ishl hx hb dX12_give_193 ?_
    refine lv_topi (fun x_8 ex_8 => ?_)
    obtain rfl : x_8 = 1 := ex_8.trans (by decide +kernel)
    refine lv_ior hx hb dX12_give_194 ?_
    refine lv_topi (fun x_9 ex_9 => ?_)
    refine va_iast hx hb hK hP hD hS 2 0 rfl rfl (show vp_in 0 4 from by unfold vp_in; decide) dX12_give_195 (fun H locs hP hD hS => ?_)
    have hP : va_P E.1 vwCl [(h0, .inr (12, mG q i_taped i_size i_sort i_what i_at i_end i_worth i_faultKind i_faultPlace i_got i_worked (nI dl) i_isPlanned i_bestDone i_bestCost)), (q 51, .inl (E.2.1 0, 512, .inl a_least)), (q 55, .inl (E.2.1 0, 4, .inl (upd a_sets (Int32.toNatClampNeg 0) x_9))), (q 54, .inl (E.2.1 0, 7, .inl a_bestGiven)), (q 53, .inl (E.2.1 0, 7, .inl f_2))] H := hP
    have hD : va_D A [(h0, .inr (12, mG q i_taped i_size i_sort i_what i_at i_end i_worth i_faultKind i_faultPlace i_got i_worked (nI dl) i_isPlanned i_bestDone i_bestCost)), (q 51, .inl (E.2.1 0, 512, .inl a_least)), (q 55, .inl (E.2.1 0, 4, .inl (upd a_sets (Int32.toNatClampNeg 0) x_9))), (q 54, .inl (E.2.1 0, 7, .inl a_bestGiven)), (q 53, .inl (E.2.1 0, 7, .inl f_2))] := hD
    obtain ⟨f_10, ef_10⟩ : ∃ g : Nat → Int32, g = upd a_sets (Int32.toNatClampNeg 0) x_9 := ⟨_, rfl⟩
    rw [← ef_10] at hP hD
    have hI_11 : ∀ k : Nat, k < 4 → inR (f_10 k) 0 127 = true := by rw [ef_10]; exact all_upd (P := fun z => inR z 0 127 = true) hI_sets (by rw [ex_9]; exact or_lt7 _ (by omega) 0 (by decide))
    refine lv_aload_n hx hb dX12_give_196 rfl (lv_at hl 1 rfl) ?_
    refine lv_iload_n hx hb dX12_give_197 rfl (lv_at hl 2 rfl) ?_
    refine lv_iconst (v := 1) hx hb dX12_give_198 (by decide) ?_
    refine lv_iadd hx hb dX12_give_199 ?_
    refine lv_topi (fun x_12 ex_12 => ?_)
    obtain rfl : x_12 = 1 := ex_12.trans (by decide +kernel)
    have hPc := hP.sub (ws' := [(h0, .inr (12, mG q i_taped i_size i_sort i_what i_at i_end i_worth i_faultKind i_faultPlace i_got i_worked (nI dl) i_isPlanned i_bestDone i_bestCost)), (q 51, .inl (E.2.1 0, 512, .inl a_least)), (q 55, .inl (E.2.1 0, 4, .inl f_10)), (q 54, .inl (E.2.1 0, 7, .inl a_bestGiven)), (q 53, .inl (E.2.1 0, 7, .inl f_2))]) [0, 1, 2, 3, 4] rfl
    have hDc := hD.sub (ws' := [(h0, .inr (12, mG q i_taped i_size i_sort i_what i_at i_end i_worth i_faultKind i_faultPlace i_got i_worked (nI dl) i_isPlanned i_bestDone i_bestCost)), (q 51, .inl (E.2.1 0, 512, .inl a_least)), (q 55, .inl (E.2.1 0, 4, .inl f_10)), (q 54, .inl (E.2.1 0, 7, .inl a_bestGiven)), (q 53, .inl (E.2.1 0, 7, .inl f_2))]) [0, 1, 2, 3, 4] (by decide) rfl
    have hFc := va_free (wc := [(h0, .inr (12, mG q i_taped i_size i_sort i_what i_at i_end i_worth i_faultKind i_faultPlace i_got i_worked (nI dl) i_isPlanned i_bestDone i_bestCost)), (q 51, .inl (E.2.1 0, 512, .inl a_least)), (q 55, .inl (E.2.1 0, 4, .inl f_10)), (q 54, .inl (E.2.1 0, 7, .inl a_bestGiven)), (q 53, .inl (E.2.1 0, 7, .inl f_2))]) hD hS hA [0, 1, 2, 3, 4] rfl
    refine va_callv (va_runV (As := [.int 1]) (rest := []) ⟨hx, hb, hml, hown, hts⟩ (c_X12_give1 l E h0 q i_taped i_size i_sort i_what i_at i_end i_worth i_faultKind i_faultPlace i_got i_worked i_isPlanned i_bestDone i_bestCost dl a_least f_10 a_bestGiven f_2 H.size hdl hd2 hI_11) (cwV 1 hts gX12_give_X12_give rfl rfl rfl hdV_X12_give ⟨Nat.le_of_ble_eq_true rfl, Nat.le_of_ble_eq_true rfl⟩) ⟨pcW_blind, va_recv hK hPc (ci := 12) (q0 := 0) rfl rfl, (pcW_pre hPc hkn hDc hst hS hFc)⟩ rfl rfl hl.1 rfl (lv_room (Nat.le_of_ble_eq_true rfl)) dX12_give_200 ⟨Nat.le_of_ble_eq_true rfl, Nat.le_of_ble_eq_true rfl⟩) hS (fun q _ h => hFc q h) hFc (fun u t H1 locs ht hvm hw_14 hB hz1 hk1 hS => ?_)
    obtain ⟨u_15, u_16, u_17, u_18, u_19⟩ := u
    obtain ⟨hf_20, hP1, hD1⟩ := hB
    rw [ht] at hP1
    try dsimp only at hw_14
    obtain ⟨hP, hD⟩ := va_join (wr := []) (w1 := [(h0, .inr (12, mG q i_taped i_size i_sort i_what i_at i_end i_worth i_faultKind i_faultPlace i_got i_worked (nI dl) i_isPlanned u_15 u_16)), (q 51, .inl (E.2.1 0, 512, .inl a_least)), (q 55, .inl (E.2.1 0, 4, .inl u_17)), (q 54, .inl (E.2.1 0, 7, .inl u_18)), (q 53, .inl (E.2.1 0, 7, .inl u_19))]) hP hD [0, 1, 2, 3, 4] [] rfl rfl (by decide) (by decide) hk1 hFc hP1 hD1
    generalize H1 = H at hP hS ⊢
    have hP : va_P E.1 vwCl [(h0, .inr (12, mG q i_taped i_size i_sort i_what i_at i_end i_worth i_faultKind i_faultPlace i_got i_worked (nI dl) i_isPlanned u_15 u_16)), (q 51, .inl (E.2.1 0, 512, .inl a_least)), (q 55, .inl (E.2.1 0, 4, .inl u_17)), (q 54, .inl (E.2.1 0, 7, .inl u_18)), (q 53, .inl (E.2.1 0, 7, .inl u_19))] H := hP
    have hD : va_D A [(h0, .inr (12, mG q i_taped i_size i_sort i_what i_at i_end i_worth i_faultKind i_faultPlace i_got i_worked (nI dl) i_isPlanned u_15 u_16)), (q 51, .inl (E.2.1 0, 512, .inl a_least)), (q 55, .inl (E.2.1 0, 4, .inl u_17)), (q 54, .inl (E.2.1 0, 7, .inl u_18)), (q 53, .inl (E.2.1 0, 7, .inl u_19))] := hD
    refine lv_aload_n hx hb dX12_give_203 rfl (lv_at hl 1 rfl) ?_
    refine va_get (D := E.1) (ci := 12) (v := .ref (q 55)) (C := RX12) (T := TX12) (N := 59) hx hb hts inX12 hown hK hP 0 rfl rfl 55 (by decide) fl142 (fun _ h9 => h9) rfl dX12_give_204 ?_
    refine lv_iload_n hx hb dX12_give_207 rfl (lv_at hl 0 rfl) ?_
    refine lv_dup2_11 hx hb dX12_give_208 rfl rfl ?_
    refine va_iald hx hb hK hP 2 0 rfl rfl (show vp_in 0 4 from by unfold vp_in; decide) dX12_give_209 ?_
    refine lv_topi (fun x_21 ex_21 => ?_)
    have hv_22 : inR x_21 0 127 = true := by rw [ex_21]; exact hf_20 _ (vin_cl (show vp_in 0 4 from by unfold vp_in; decide))
    obtain ⟨w_23, hw_24, ew_25⟩ := inR_nI (n := 127) (by decide) hv_22
    subst ew_25
    refine lv_iconst (v := 1) hx hb dX12_give_210 (by decide) ?_
    refine lv_iload_n hx hb dX12_give_211 rfl (lv_at hl 2 rfl) ?_
    refine lv_ishl hx hb dX12_give_212 ?_
    refine lv_topi (fun x_26 ex_26 => ?_)
    obtain rfl : x_26 = 1 := ex_26.trans (by decide +kernel)
    refine lv_iconst (v := (-1)) hx hb dX12_give_213 (by decide) ?_
    refine lv_ixor hx hb dX12_give_214 ?_
    refine lv_topi (fun x_27 ex_27 => ?_)
    obtain rfl : x_27 = (-2) := ex_27.trans (by decide +kernel)
    refine lv_iand hx hb dX12_give_215 ?_
    refine lv_topi (fun x_28 ex_28 => ?_)
    refine va_iast hx hb hK hP hD hS 2 0 rfl rfl (show vp_in 0 4 from by unfold vp_in; decide) dX12_give_216 (fun H locs hP hD hS => ?_)
    have hP : va_P E.1 vwCl [(h0, .inr (12, mG q i_taped i_size i_sort i_what i_at i_end i_worth i_faultKind i_faultPlace i_got i_worked (nI dl) i_isPlanned u_15 u_16)), (q 51, .inl (E.2.1 0, 512, .inl a_least)), (q 55, .inl (E.2.1 0, 4, .inl (upd u_17 (Int32.toNatClampNeg 0) x_28))), (q 54, .inl (E.2.1 0, 7, .inl u_18)), (q 53, .inl (E.2.1 0, 7, .inl u_19))] H := hP
    have hD : va_D A [(h0, .inr (12, mG q i_taped i_size i_sort i_what i_at i_end i_worth i_faultKind i_faultPlace i_got i_worked (nI dl) i_isPlanned u_15 u_16)), (q 51, .inl (E.2.1 0, 512, .inl a_least)), (q 55, .inl (E.2.1 0, 4, .inl (upd u_17 (Int32.toNatClampNeg 0) x_28))), (q 54, .inl (E.2.1 0, 7, .inl u_18)), (q 53, .inl (E.2.1 0, 7, .inl u_19))] := hD
    obtain ⟨f_29, ef_29⟩ : ∃ g : Nat → Int32, g = upd u_17 (Int32.toNatClampNeg 0) x_28 := ⟨_, rfl⟩
    rw [← ef_29] at hP hD
    have hI_30 : ∀ k : Nat, k < 4 → inR (f_29 k) 0 127 = true := by rw [ef_29]; exact all_upd (P := fun z => inR z 0 127 = true) hf_20 (by rw [ex_28]; exact and_lt7 _ (by omega) 0 (by decide))
    refine lv_iinc (v := 1) (lv' := [(2, .int 1), (0, .ref h0), (1, .int 0)]) hx hb dX12_give_217 hl (k := 0) rfl (by decide) (by decide) rfl (fun ls hl => ?_)
    refine lv_goto (tgt := 172) hx hb dX12_give_220 (by decide) ?_
    refine lv_iload_n hx hb dX12_give_172 rfl (lv_at hl 0 rfl) ?_
    refine lv_iconst (v := 4) hx hb dX12_give_173 (by decide) ?_
    refine lv_icmp_ge (tgt := 223) hx hb dX12_give_174 (by decide) (fun c9 => absurd c9 (by decide)) (fun _ => ?_)
    refine lv_aload_n hx hb dX12_give_177 rfl (lv_at hl 1 rfl) ?_
    refine va_get (D := E.1) (ci := 12) (v := .ref (q 53)) (C := RX12) (T := TX12) (N := 59) hx hb hts inX12 hown hK hP 0 rfl rfl 53 (by decide) fl136 (fun _ h9 => h9) rfl dX12_give_178 ?_
    refine lv_iload_n hx hb dX12_give_181 rfl (lv_at hl 2 rfl) ?_
    refine lv_iload_n hx hb dX12_give_182 rfl (lv_at hl 0 rfl) ?_
    refine va_iast hx hb hK hP hD hS 4 0 rfl rfl (show vp_in 0 7 from by unfold vp_in; decide) dX12_give_183 (fun H locs hP hD hS => ?_)
    have hP : va_P E.1 vwCl [(h0, .inr (12, mG q i_taped i_size i_sort i_what i_at i_end i_worth i_faultKind i_faultPlace i_got i_worked (nI dl) i_isPlanned u_15 u_16)), (q 51, .inl (E.2.1 0, 512, .inl a_least)), (q 55, .inl (E.2.1 0, 4, .inl f_29)), (q 54, .inl (E.2.1 0, 7, .inl u_18)), (q 53, .inl (E.2.1 0, 7, .inl (upd u_19 (Int32.toNatClampNeg 0) 1)))] H := hP
    have hD : va_D A [(h0, .inr (12, mG q i_taped i_size i_sort i_what i_at i_end i_worth i_faultKind i_faultPlace i_got i_worked (nI dl) i_isPlanned u_15 u_16)), (q 51, .inl (E.2.1 0, 512, .inl a_least)), (q 55, .inl (E.2.1 0, 4, .inl f_29)), (q 54, .inl (E.2.1 0, 7, .inl u_18)), (q 53, .inl (E.2.1 0, 7, .inl (upd u_19 (Int32.toNatClampNeg 0) 1)))] := hD
    obtain ⟨f_31, ef_31⟩ : ∃ g : Nat → Int32, g = upd u_19 (Int32.toNatClampNeg 0) 1 := ⟨_, rfl⟩
    rw [← ef_31] at hP hD
    refine lv_aload_n hx hb dX12_give_184 rfl (lv_at hl 1 rfl) ?_
    refine va_get (D := E.1) (ci := 12) (v := .ref (q 55)) (C := RX12) (T := TX12) (N := 59) hx hb hts inX12 hown hK hP 0 rfl rfl 55 (by decide) fl142 (fun _ h9 => h9) rfl dX12_give_185 ?_
    refine lv_iload_n hx hb dX12_give_188 rfl (lv_at hl 0 rfl) ?_
    refine lv_dup2_11 hx hb dX12_give_189 rfl rfl ?_
    refine va_iald hx hb hK hP 2 0 rfl rfl (show vp_in 1 4 from by unfold vp_in; decide) dX12_give_190 ?_
    refine lv_topi (fun x_32 ex_32 => ?_)
    have hv_33 : inR x_32 0 127 = true := by rw [ex_32]; exact hI_30 _ (vin_cl (show vp_in 1 4 from by unfold vp_in; decide))
    obtain ⟨w_34, hw_35, ew_36⟩ := inR_nI (n := 127) (by decide) hv_33
    subst ew_36
    refine lv_iconst (v := 1) hx hb dX12_give_191 (by decide) ?_
    refine lv_iload_n hx hb dX12_give_192 rfl (lv_at hl 2 rfl) ?_
    refine lv_ishl hx hb dX12_give_193 ?_
    refine lv_topi (fun x_37 ex_37 => ?_)
    obtain rfl : x_37 = 1 := ex_37.trans (by decide +kernel)
    refine lv_ior hx hb dX12_give_194 ?_
    refine lv_topi (fun x_38 ex_38 => ?_)
    refine va_iast hx hb hK hP hD hS 2 0 rfl rfl (show vp_in 1 4 from by unfold vp_in; decide) dX12_give_195 (fun H locs hP hD hS => ?_)
    have hP : va_P E.1 vwCl [(h0, .inr (12, mG q i_taped i_size i_sort i_what i_at i_end i_worth i_faultKind i_faultPlace i_got i_worked (nI dl) i_isPlanned u_15 u_16)), (q 51, .inl (E.2.1 0, 512, .inl a_least)), (q 55, .inl (E.2.1 0, 4, .inl (upd f_29 (Int32.toNatClampNeg 1) x_38))), (q 54, .inl (E.2.1 0, 7, .inl u_18)), (q 53, .inl (E.2.1 0, 7, .inl f_31))] H := hP
    have hD : va_D A [(h0, .inr (12, mG q i_taped i_size i_sort i_what i_at i_end i_worth i_faultKind i_faultPlace i_got i_worked (nI dl) i_isPlanned u_15 u_16)), (q 51, .inl (E.2.1 0, 512, .inl a_least)), (q 55, .inl (E.2.1 0, 4, .inl (upd f_29 (Int32.toNatClampNeg 1) x_38))), (q 54, .inl (E.2.1 0, 7, .inl u_18)), (q 53, .inl (E.2.1 0, 7, .inl f_31))] := hD
    obtain ⟨f_39, ef_39⟩ : ∃ g : Nat → Int32, g = upd f_29 (Int32.toNatClampNeg 1) x_38 := ⟨_, rfl⟩
    rw [← ef_39] at hP hD
    have hI_40 : ∀ k : Nat, k < 4 → inR (f_39 k) 0 127 = true := by rw [ef_39]; exact all_upd (P := fun z => inR z 0 127 = true) hI_30 (by rw [ex_38]; exact or_lt7 _ (by omega) 0 (by decide))
    refine lv_aload_n hx hb dX12_give_196 rfl (lv_at hl 1 rfl) ?_
    refine lv_iload_n hx hb dX12_give_197 rfl (lv_at hl 2 rfl) ?_
    refine lv_iconst (v := 1) hx hb dX12_give_198 (by decide) ?_
    refine lv_iadd hx hb dX12_give_199 ?_
    refine lv_topi (fun x_41 ex_41 => ?_)
    obtain rfl : x_41 = 1 := ex_41.trans (by decide +kernel)
    have hPc := hP.sub (ws' := [(h0, .inr (12, mG q i_taped i_size i_sort i_what i_at i_end i_worth i_faultKind i_faultPlace i_got i_worked (nI dl) i_isPlanned u_15 u_16)), (q 51, .inl (E.2.1 0, 512, .inl a_least)), (q 55, .inl (E.2.1 0, 4, .inl f_39)), (q 54, .inl (E.2.1 0, 7, .inl u_18)), (q 53, .inl (E.2.1 0, 7, .inl f_31))]) [0, 1, 2, 3, 4] rfl
    have hDc := hD.sub (ws' := [(h0, .inr (12, mG q i_taped i_size i_sort i_what i_at i_end i_worth i_faultKind i_faultPlace i_got i_worked (nI dl) i_isPlanned u_15 u_16)), (q 51, .inl (E.2.1 0, 512, .inl a_least)), (q 55, .inl (E.2.1 0, 4, .inl f_39)), (q 54, .inl (E.2.1 0, 7, .inl u_18)), (q 53, .inl (E.2.1 0, 7, .inl f_31))]) [0, 1, 2, 3, 4] (by decide) rfl
    have hFc := va_free (wc := [(h0, .inr (12, mG q i_taped i_size i_sort i_what i_at i_end i_worth i_faultKind i_faultPlace i_got i_worked (nI dl) i_isPlanned u_15 u_16)), (q 51, .inl (E.2.1 0, 512, .inl a_least)), (q 55, .inl (E.2.1 0, 4, .inl f_39)), (q 54, .inl (E.2.1 0, 7, .inl u_18)), (q 53, .inl (E.2.1 0, 7, .inl f_31))]) hD hS hA [0, 1, 2, 3, 4] rfl
    refine va_callv (va_runV (As := [.int 1]) (rest := []) ⟨hx, hb, hml, hown, hts⟩ (c_X12_give1 l E h0 q i_taped i_size i_sort i_what i_at i_end i_worth i_faultKind i_faultPlace i_got i_worked i_isPlanned u_15 u_16 dl a_least f_39 u_18 f_31 H.size hdl hd2 hI_40) (cwV 1 hts gX12_give_X12_give rfl rfl rfl hdV_X12_give ⟨Nat.le_of_ble_eq_true rfl, Nat.le_of_ble_eq_true rfl⟩) ⟨pcW_blind, va_recv hK hPc (ci := 12) (q0 := 0) rfl rfl, (pcW_pre hPc hkn hDc hst hS hFc)⟩ rfl rfl hl.1 rfl (lv_room (Nat.le_of_ble_eq_true rfl)) dX12_give_200 ⟨Nat.le_of_ble_eq_true rfl, Nat.le_of_ble_eq_true rfl⟩) hS (fun q _ h => hFc q h) hFc (fun u t H1 locs ht hvm hw_43 hB hz1 hk1 hS => ?_)
    obtain ⟨u_44, u_45, u_46, u_47, u_48⟩ := u
    obtain ⟨hf_49, hP1, hD1⟩ := hB
    rw [ht] at hP1
    try dsimp only at hw_43
    obtain ⟨hP, hD⟩ := va_join (wr := []) (w1 := [(h0, .inr (12, mG q i_taped i_size i_sort i_what i_at i_end i_worth i_faultKind i_faultPlace i_got i_worked (nI dl) i_isPlanned u_44 u_45)), (q 51, .inl (E.2.1 0, 512, .inl a_least)), (q 55, .inl (E.2.1 0, 4, .inl u_46)), (q 54, .inl (E.2.1 0, 7, .inl u_47)), (q 53, .inl (E.2.1 0, 7, .inl u_48))]) hP hD [0, 1, 2, 3, 4] [] rfl rfl (by decide) (by decide) hk1 hFc hP1 hD1
    generalize H1 = H at hP hS ⊢
    have hP : va_P E.1 vwCl [(h0, .inr (12, mG q i_taped i_size i_sort i_what i_at i_end i_worth i_faultKind i_faultPlace i_got i_worked (nI dl) i_isPlanned u_44 u_45)), (q 51, .inl (E.2.1 0, 512, .inl a_least)), (q 55, .inl (E.2.1 0, 4, .inl u_46)), (q 54, .inl (E.2.1 0, 7, .inl u_47)), (q 53, .inl (E.2.1 0, 7, .inl u_48))] H := hP
    have hD : va_D A [(h0, .inr (12, mG q i_taped i_size i_sort i_what i_at i_end i_worth i_faultKind i_faultPlace i_got i_worked (nI dl) i_isPlanned u_44 u_45)), (q 51, .inl (E.2.1 0, 512, .inl a_least)), (q 55, .inl (E.2.1 0, 4, .inl u_46)), (q 54, .inl (E.2.1 0, 7, .inl u_47)), (q 53, .inl (E.2.1 0, 7, .inl u_48))] := hD
    refine lv_aload_n hx hb dX12_give_203 rfl (lv_at hl 1 rfl) ?_
    refine va_get (D := E.1) (ci := 12) (v := .ref (q 55)) (C := RX12) (T := TX12) (N := 59) hx hb hts inX12 hown hK hP 0 rfl rfl 55 (by decide) fl142 (fun _ h9 => h9) rfl dX12_give_204 ?_
    refine lv_iload_n hx hb dX12_give_207 rfl (lv_at hl 0 rfl) ?_
    refine lv_dup2_11 hx hb dX12_give_208 rfl rfl ?_
    refine va_iald hx hb hK hP 2 0 rfl rfl (show vp_in 1 4 from by unfold vp_in; decide) dX12_give_209 ?_
    refine lv_topi (fun x_50 ex_50 => ?_)
    have hv_51 : inR x_50 0 127 = true := by rw [ex_50]; exact hf_49 _ (vin_cl (show vp_in 1 4 from by unfold vp_in; decide))
    obtain ⟨w_52, hw_53, ew_54⟩ := inR_nI (n := 127) (by decide) hv_51
    subst ew_54
    refine lv_iconst (v := 1) hx hb dX12_give_210 (by decide) ?_
    refine lv_iload_n hx hb dX12_give_211 rfl (lv_at hl 2 rfl) ?_
    refine lv_ishl hx hb dX12_give_212 ?_
    refine lv_topi (fun x_55 ex_55 => ?_)
    obtain rfl : x_55 = 1 := ex_55.trans (by decide +kernel)
    refine lv_iconst (v := (-1)) hx hb dX12_give_213 (by decide) ?_
    refine lv_ixor hx hb dX12_give_214 ?_
    refine lv_topi (fun x_56 ex_56 => ?_)
    obtain rfl : x_56 = (-2) := ex_56.trans (by decide +kernel)
    refine lv_iand hx hb dX12_give_215 ?_
    refine lv_topi (fun x_57 ex_57 => ?_)
    refine va_iast hx hb hK hP hD hS 2 0 rfl rfl (show vp_in 1 4 from by unfold vp_in; decide) dX12_give_216 (fun H locs hP hD hS => ?_)
    have hP : va_P E.1 vwCl [(h0, .inr (12, mG q i_taped i_size i_sort i_what i_at i_end i_worth i_faultKind i_faultPlace i_got i_worked (nI dl) i_isPlanned u_44 u_45)), (q 51, .inl (E.2.1 0, 512, .inl a_least)), (q 55, .inl (E.2.1 0, 4, .inl (upd u_46 (Int32.toNatClampNeg 1) x_57))), (q 54, .inl (E.2.1 0, 7, .inl u_47)), (q 53, .inl (E.2.1 0, 7, .inl u_48))] H := hP
    have hD : va_D A [(h0, .inr (12, mG q i_taped i_size i_sort i_what i_at i_end i_worth i_faultKind i_faultPlace i_got i_worked (nI dl) i_isPlanned u_44 u_45)), (q 51, .inl (E.2.1 0, 512, .inl a_least)), (q 55, .inl (E.2.1 0, 4, .inl (upd u_46 (Int32.toNatClampNeg 1) x_57))), (q 54, .inl (E.2.1 0, 7, .inl u_47)), (q 53, .inl (E.2.1 0, 7, .inl u_48))] := hD
    obtain ⟨f_58, ef_58⟩ : ∃ g : Nat → Int32, g = upd u_46 (Int32.toNatClampNeg 1) x_57 := ⟨_, rfl⟩
    rw [← ef_58] at hP hD
    have hI_59 : ∀ k : Nat, k < 4 → inR (f_58 k) 0 127 = true := by rw [ef_58]; exact all_upd (P := fun z => inR z 0 127 = true) hf_49 (by rw [ex_57]; exact and_lt7 _ (by omega) 0 (by decide))
    refine lv_iinc (v := 2) (lv' := [(2, .int 2), (0, .ref h0), (1, .int 0)]) hx hb dX12_give_217 hl (k := 0) rfl (by decide) (by decide) rfl (fun ls hl => ?_)
    refine lv_goto (tgt := 172) hx hb dX12_give_220 (by decide) ?_
    refine lv_iload_n hx hb dX12_give_172 rfl (lv_at hl 0 rfl) ?_
    refine lv_iconst (v := 4) hx hb dX12_give_173 (by decide) ?_
    refine lv_icmp_ge (tgt := 223) hx hb dX12_give_174 (by decide) (fun c9 => absurd c9 (by decide)) (fun _ => ?_)
    refine lv_aload_n hx hb dX12_give_177 rfl (lv_at hl 1 rfl) ?_
    refine va_get (D := E.1) (ci := 12) (v := .ref (q 53)) (C := RX12) (T := TX12) (N := 59) hx hb hts inX12 hown hK hP 0 rfl rfl 53 (by decide) fl136 (fun _ h9 => h9) rfl dX12_give_178 ?_
    refine lv_iload_n hx hb dX12_give_181 rfl (lv_at hl 2 rfl) ?_
    refine lv_iload_n hx hb dX12_give_182 rfl (lv_at hl 0 rfl) ?_
    refine va_iast hx hb hK hP hD hS 4 0 rfl rfl (show vp_in 0 7 from by unfold vp_in; decide) dX12_give_183 (fun H locs hP hD hS => ?_)
    have hP : va_P E.1 vwCl [(h0, .inr (12, mG q i_taped i_size i_sort i_what i_at i_end i_worth i_faultKind i_faultPlace i_got i_worked (nI dl) i_isPlanned u_44 u_45)), (q 51, .inl (E.2.1 0, 512, .inl a_least)), (q 55, .inl (E.2.1 0, 4, .inl f_58)), (q 54, .inl (E.2.1 0, 7, .inl u_47)), (q 53, .inl (E.2.1 0, 7, .inl (upd u_48 (Int32.toNatClampNeg 0) 2)))] H := hP
    have hD : va_D A [(h0, .inr (12, mG q i_taped i_size i_sort i_what i_at i_end i_worth i_faultKind i_faultPlace i_got i_worked (nI dl) i_isPlanned u_44 u_45)), (q 51, .inl (E.2.1 0, 512, .inl a_least)), (q 55, .inl (E.2.1 0, 4, .inl f_58)), (q 54, .inl (E.2.1 0, 7, .inl u_47)), (q 53, .inl (E.2.1 0, 7, .inl (upd u_48 (Int32.toNatClampNeg 0) 2)))] := hD
    obtain ⟨f_60, ef_60⟩ : ∃ g : Nat → Int32, g = upd u_48 (Int32.toNatClampNeg 0) 2 := ⟨_, rfl⟩
    rw [← ef_60] at hP hD
    refine lv_aload_n hx hb dX12_give_184 rfl (lv_at hl 1 rfl) ?_
    refine va_get (D := E.1) (ci := 12) (v := .ref (q 55)) (C := RX12) (T := TX12) (N := 59) hx hb hts inX12 hown hK hP 0 rfl rfl 55 (by decide) fl142 (fun _ h9 => h9) rfl dX12_give_185 ?_
    refine lv_iload_n hx hb dX12_give_188 rfl (lv_at hl 0 rfl) ?_
    refine lv_dup2_11 hx hb dX12_give_189 rfl rfl ?_
    refine va_iald hx hb hK hP 2 0 rfl rfl (show vp_in 2 4 from by unfold vp_in; decide) dX12_give_190 ?_
    refine lv_topi (fun x_61 ex_61 => ?_)
    have hv_62 : inR x_61 0 127 = true := by rw [ex_61]; exact hI_59 _ (vin_cl (show vp_in 2 4 from by unfold vp_in; decide))
    obtain ⟨w_63, hw_64, ew_65⟩ := inR_nI (n := 127) (by decide) hv_62
    subst ew_65
    refine lv_iconst (v := 1) hx hb dX12_give_191 (by decide) ?_
    refine lv_iload_n hx hb dX12_give_192 rfl (lv_at hl 2 rfl) ?_
    refine lv_ishl hx hb dX12_give_193 ?_
    refine lv_topi (fun x_66 ex_66 => ?_)
    obtain rfl : x_66 = 1 := ex_66.trans (by decide +kernel)
    refine lv_ior hx hb dX12_give_194 ?_
    refine lv_topi (fun x_67 ex_67 => ?_)
    refine va_iast hx hb hK hP hD hS 2 0 rfl rfl (show vp_in 2 4 from by unfold vp_in; decide) dX12_give_195 (fun H locs hP hD hS => ?_)
    have hP : va_P E.1 vwCl [(h0, .inr (12, mG q i_taped i_size i_sort i_what i_at i_end i_worth i_faultKind i_faultPlace i_got i_worked (nI dl) i_isPlanned u_44 u_45)), (q 51, .inl (E.2.1 0, 512, .inl a_least)), (q 55, .inl (E.2.1 0, 4, .inl (upd f_58 (Int32.toNatClampNeg 2) x_67))), (q 54, .inl (E.2.1 0, 7, .inl u_47)), (q 53, .inl (E.2.1 0, 7, .inl f_60))] H := hP
    have hD : va_D A [(h0, .inr (12, mG q i_taped i_size i_sort i_what i_at i_end i_worth i_faultKind i_faultPlace i_got i_worked (nI dl) i_isPlanned u_44 u_45)), (q 51, .inl (E.2.1 0, 512, .inl a_least)), (q 55, .inl (E.2.1 0, 4, .inl (upd f_58 (Int32.toNatClampNeg 2) x_67))), (q 54, .inl (E.2.1 0, 7, .inl u_47)), (q 53, .inl (E.2.1 0, 7, .inl f_60))] := hD
    obtain ⟨f_68, ef_68⟩ : ∃ g : Nat → Int32, g = upd f_58 (Int32.toNatClampNeg 2) x_67 := ⟨_, rfl⟩
    rw [← ef_68] at hP hD
    have hI_69 : ∀ k : Nat, k < 4 → inR (f_68 k) 0 127 = true := by rw [ef_68]; exact all_upd (P := fun z => inR z 0 127 = true) hI_59 (by rw [ex_67]; exact or_lt7 _ (by omega) 0 (by decide))
    refine lv_aload_n hx hb dX12_give_196 rfl (lv_at hl 1 rfl) ?_
    refine lv_iload_n hx hb dX12_give_197 rfl (lv_at hl 2 rfl) ?_
    refine lv_iconst (v := 1) hx hb dX12_give_198 (by decide) ?_
    refine lv_iadd hx hb dX12_give_199 ?_
    refine lv_topi (fun x_70 ex_70 => ?_)
    obtain rfl : x_70 = 1 := ex_70.trans (by decide +kernel)
    have hPc := hP.sub (ws' := [(h0, .inr (12, mG q i_taped i_size i_sort i_what i_at i_end i_worth i_faultKind i_faultPlace i_got i_worked (nI dl) i_isPlanned u_44 u_45)), (q 51, .inl (E.2.1 0, 512, .inl a_least)), (q 55, .inl (E.2.1 0, 4, .inl f_68)), (q 54, .inl (E.2.1 0, 7, .inl u_47)), (q 53, .inl (E.2.1 0, 7, .inl f_60))]) [0, 1, 2, 3, 4] rfl
    have hDc := hD.sub (ws' := [(h0, .inr (12, mG q i_taped i_size i_sort i_what i_at i_end i_worth i_faultKind i_faultPlace i_got i_worked (nI dl) i_isPlanned u_44 u_45)), (q 51, .inl (E.2.1 0, 512, .inl a_least)), (q 55, .inl (E.2.1 0, 4, .inl f_68)), (q 54, .inl (E.2.1 0, 7, .inl u_47)), (q 53, .inl (E.2.1 0, 7, .inl f_60))]) [0, 1, 2, 3, 4] (by decide) rfl
    have hFc := va_free (wc := [(h0, .inr (12, mG q i_taped i_size i_sort i_what i_at i_end i_worth i_faultKind i_faultPlace i_got i_worked (nI dl) i_isPlanned u_44 u_45)), (q 51, .inl (E.2.1 0, 512, .inl a_least)), (q 55, .inl (E.2.1 0, 4, .inl f_68)), (q 54, .inl (E.2.1 0, 7, .inl u_47)), (q 53, .inl (E.2.1 0, 7, .inl f_60))]) hD hS hA [0, 1, 2, 3, 4] rfl
    refine va_callv (va_runV (As := [.int 1]) (rest := []) ⟨hx, hb, hml, hown, hts⟩ (c_X12_give1 l E h0 q i_taped i_size i_sort i_what i_at i_end i_worth i_faultKind i_faultPlace i_got i_worked i_isPlanned u_44 u_45 dl a_least f_68 u_47 f_60 H.size hdl hd2 hI_69) (cwV 1 hts gX12_give_X12_give rfl rfl rfl hdV_X12_give ⟨Nat.le_of_ble_eq_true rfl, Nat.le_of_ble_eq_true rfl⟩) ⟨pcW_blind, va_recv hK hPc (ci := 12) (q0 := 0) rfl rfl, (pcW_pre hPc hkn hDc hst hS hFc)⟩ rfl rfl hl.1 rfl (lv_room (Nat.le_of_ble_eq_true rfl)) dX12_give_200 ⟨Nat.le_of_ble_eq_true rfl, Nat.le_of_ble_eq_true rfl⟩) hS (fun q _ h => hFc q h) hFc (fun u t H1 locs ht hvm hw_72 hB hz1 hk1 hS => ?_)
    obtain ⟨u_73, u_74, u_75, u_76, u_77⟩ := u
    obtain ⟨hf_78, hP1, hD1⟩ := hB
    rw [ht] at hP1
    try dsimp only at hw_72
    obtain ⟨hP, hD⟩ := va_join (wr := []) (w1 := [(h0, .inr (12, mG q i_taped i_size i_sort i_what i_at i_end i_worth i_faultKind i_faultPlace i_got i_worked (nI dl) i_isPlanned u_73 u_74)), (q 51, .inl (E.2.1 0, 512, .inl a_least)), (q 55, .inl (E.2.1 0, 4, .inl u_75)), (q 54, .inl (E.2.1 0, 7, .inl u_76)), (q 53, .inl (E.2.1 0, 7, .inl u_77))]) hP hD [0, 1, 2, 3, 4] [] rfl rfl (by decide) (by decide) hk1 hFc hP1 hD1
    generalize H1 = H at hP hS ⊢
    have hP : va_P E.1 vwCl [(h0, .inr (12, mG q i_taped i_size i_sort i_what i_at i_end i_worth i_faultKind i_faultPlace i_got i_worked (nI dl) i_isPlanned u_73 u_74)), (q 51, .inl (E.2.1 0, 512, .inl a_least)), (q 55, .inl (E.2.1 0, 4, .inl u_75)), (q 54, .inl (E.2.1 0, 7, .inl u_76)), (q 53, .inl (E.2.1 0, 7, .inl u_77))] H := hP
    have hD : va_D A [(h0, .inr (12, mG q i_taped i_size i_sort i_what i_at i_end i_worth i_faultKind i_faultPlace i_got i_worked (nI dl) i_isPlanned u_73 u_74)), (q 51, .inl (E.2.1 0, 512, .inl a_least)), (q 55, .inl (E.2.1 0, 4, .inl u_75)), (q 54, .inl (E.2.1 0, 7, .inl u_76)), (q 53, .inl (E.2.1 0, 7, .inl u_77))] := hD
    refine lv_aload_n hx hb dX12_give_203 rfl (lv_at hl 1 rfl) ?_
    refine va_get (D := E.1) (ci := 12) (v := .ref (q 55)) (C := RX12) (T := TX12) (N := 59) hx hb hts inX12 hown hK hP 0 rfl rfl 55 (by decide) fl142 (fun _ h9 => h9) rfl dX12_give_204 ?_
    refine lv_iload_n hx hb dX12_give_207 rfl (lv_at hl 0 rfl) ?_
    refine lv_dup2_11 hx hb dX12_give_208 rfl rfl ?_
    refine va_iald hx hb hK hP 2 0 rfl rfl (show vp_in 2 4 from by unfold vp_in; decide) dX12_give_209 ?_
    refine lv_topi (fun x_79 ex_79 => ?_)
    have hv_80 : inR x_79 0 127 = true := by rw [ex_79]; exact hf_78 _ (vin_cl (show vp_in 2 4 from by unfold vp_in; decide))
    obtain ⟨w_81, hw_82, ew_83⟩ := inR_nI (n := 127) (by decide) hv_80
    subst ew_83
    refine lv_iconst (v := 1) hx hb dX12_give_210 (by decide) ?_
    refine lv_iload_n hx hb dX12_give_211 rfl (lv_at hl 2 rfl) ?_
    refine lv_ishl hx hb dX12_give_212 ?_
    refine lv_topi (fun x_84 ex_84 => ?_)
    obtain rfl : x_84 = 1 := ex_84.trans (by decide +kernel)
    refine lv_iconst (v := (-1)) hx hb dX12_give_213 (by decide) ?_
    refine lv_ixor hx hb dX12_give_214 ?_
    refine lv_topi (fun x_85 ex_85 => ?_)
    obtain rfl : x_85 = (-2) := ex_85.trans (by decide +kernel)
    refine lv_iand hx hb dX12_give_215 ?_
    refine lv_topi (fun x_86 ex_86 => ?_)
    refine va_iast hx hb hK hP hD hS 2 0 rfl rfl (show vp_in 2 4 from by unfold vp_in; decide) dX12_give_216 (fun H locs hP hD hS => ?_)
    have hP : va_P E.1 vwCl [(h0, .inr (12, mG q i_taped i_size i_sort i_what i_at i_end i_worth i_faultKind i_faultPlace i_got i_worked (nI dl) i_isPlanned u_73 u_74)), (q 51, .inl (E.2.1 0, 512, .inl a_least)), (q 55, .inl (E.2.1 0, 4, .inl (upd u_75 (Int32.toNatClampNeg 2) x_86))), (q 54, .inl (E.2.1 0, 7, .inl u_76)), (q 53, .inl (E.2.1 0, 7, .inl u_77))] H := hP
    have hD : va_D A [(h0, .inr (12, mG q i_taped i_size i_sort i_what i_at i_end i_worth i_faultKind i_faultPlace i_got i_worked (nI dl) i_isPlanned u_73 u_74)), (q 51, .inl (E.2.1 0, 512, .inl a_least)), (q 55, .inl (E.2.1 0, 4, .inl (upd u_75 (Int32.toNatClampNeg 2) x_86))), (q 54, .inl (E.2.1 0, 7, .inl u_76)), (q 53, .inl (E.2.1 0, 7, .inl u_77))] := hD
    obtain ⟨f_87, ef_87⟩ : ∃ g : Nat → Int32, g = upd u_75 (Int32.toNatClampNeg 2) x_86 := ⟨_, rfl⟩
    rw [← ef_87] at hP hD
    have hI_88 : ∀ k : Nat, k < 4 → inR (f_87 k) 0 127 = true := by rw [ef_87]; exact all_upd (P := fun z => inR z 0 127 = true) hf_78 (by rw [ex_86]; exact and_lt7 _ (by omega) 0 (by decide))
    refine lv_iinc (v := 3) (lv' := [(2, .int 3), (0, .ref h0), (1, .int 0)]) hx hb dX12_give_217 hl (k := 0) rfl (by decide) (by decide) rfl (fun ls hl => ?_)
    refine lv_goto (tgt := 172) hx hb dX12_give_220 (by decide) ?_
    refine lv_iload_n hx hb dX12_give_172 rfl (lv_at hl 0 rfl) ?_
    refine lv_iconst (v := 4) hx hb dX12_give_173 (by decide) ?_
    refine lv_icmp_ge (tgt := 223) hx hb dX12_give_174 (by decide) (fun c9 => absurd c9 (by decide)) (fun _ => ?_)
    refine lv_aload_n hx hb dX12_give_177 rfl (lv_at hl 1 rfl) ?_
    refine va_get (D := E.1) (ci := 12) (v := .ref (q 53)) (C := RX12) (T := TX12) (N := 59) hx hb hts inX12 hown hK hP 0 rfl rfl 53 (by decide) fl136 (fun _ h9 => h9) rfl dX12_give_178 ?_
    refine lv_iload_n hx hb dX12_give_181 rfl (lv_at hl 2 rfl) ?_
    refine lv_iload_n hx hb dX12_give_182 rfl (lv_at hl 0 rfl) ?_
    refine va_iast hx hb hK hP hD hS 4 0 rfl rfl (show vp_in 0 7 from by unfold vp_in; decide) dX12_give_183 (fun H locs hP hD hS => ?_)
    have hP : va_P E.1 vwCl [(h0, .inr (12, mG q i_taped i_size i_sort i_what i_at i_end i_worth i_faultKind i_faultPlace i_got i_worked (nI dl) i_isPlanned u_73 u_74)), (q 51, .inl (E.2.1 0, 512, .inl a_least)), (q 55, .inl (E.2.1 0, 4, .inl f_87)), (q 54, .inl (E.2.1 0, 7, .inl u_76)), (q 53, .inl (E.2.1 0, 7, .inl (upd u_77 (Int32.toNatClampNeg 0) 3)))] H := hP
    have hD : va_D A [(h0, .inr (12, mG q i_taped i_size i_sort i_what i_at i_end i_worth i_faultKind i_faultPlace i_got i_worked (nI dl) i_isPlanned u_73 u_74)), (q 51, .inl (E.2.1 0, 512, .inl a_least)), (q 55, .inl (E.2.1 0, 4, .inl f_87)), (q 54, .inl (E.2.1 0, 7, .inl u_76)), (q 53, .inl (E.2.1 0, 7, .inl (upd u_77 (Int32.toNatClampNeg 0) 3)))] := hD
    obtain ⟨f_89, ef_89⟩ : ∃ g : Nat → Int32, g = upd u_77 (Int32.toNatClampNeg 0) 3 := ⟨_, rfl⟩
    rw [← ef_89] at hP hD
    refine lv_aload_n hx hb dX12_give_184 rfl (lv_at hl 1 rfl) ?_
    refine va_get (D := E.1) (ci := 12) (v := .ref (q 55)) (C := RX12) (T := TX12) (N := 59) hx hb hts inX12 hown hK hP 0 rfl rfl 55 (by decide) fl142 (fun _ h9 => h9) rfl dX12_give_185 ?_
    refine lv_iload_n hx hb dX12_give_188 rfl (lv_at hl 0 rfl) ?_
    refine lv_dup2_11 hx hb dX12_give_189 rfl rfl ?_
    refine va_iald hx hb hK hP 2 0 rfl rfl (show vp_in 3 4 from by unfold vp_in; decide) dX12_give_190 ?_
    refine lv_topi (fun x_90 ex_90 => ?_)
    have hv_91 : inR x_90 0 127 = true := by rw [ex_90]; exact hI_88 _ (vin_cl (show vp_in 3 4 from by unfold vp_in; decide))
    obtain ⟨w_92, hw_93, ew_94⟩ := inR_nI (n := 127) (by decide) hv_91
    subst ew_94
    refine lv_iconst (v := 1) hx hb dX12_give_191 (by decide) ?_
    refine lv_iload_n hx hb dX12_give_192 rfl (lv_at hl 2 rfl) ?_
    refine lv_ishl hx hb dX12_give_193 ?_
    refine lv_topi (fun x_95 ex_95 => ?_)
    obtain rfl : x_95 = 1 := ex_95.trans (by decide +kernel)
    refine lv_ior hx hb dX12_give_194 ?_
    refine lv_topi (fun x_96 ex_96 => ?_)
    refine va_iast hx hb hK hP hD hS 2 0 rfl rfl (show vp_in 3 4 from by unfold vp_in; decide) dX12_give_195 (fun H locs hP hD hS => ?_)
    have hP : va_P E.1 vwCl [(h0, .inr (12, mG q i_taped i_size i_sort i_what i_at i_end i_worth i_faultKind i_faultPlace i_got i_worked (nI dl) i_isPlanned u_73 u_74)), (q 51, .inl (E.2.1 0, 512, .inl a_least)), (q 55, .inl (E.2.1 0, 4, .inl (upd f_87 (Int32.toNatClampNeg 3) x_96))), (q 54, .inl (E.2.1 0, 7, .inl u_76)), (q 53, .inl (E.2.1 0, 7, .inl f_89))] H := hP
    have hD : va_D A [(h0, .inr (12, mG q i_taped i_size i_sort i_what i_at i_end i_worth i_faultKind i_faultPlace i_got i_worked (nI dl) i_isPlanned u_73 u_74)), (q 51, .inl (E.2.1 0, 512, .inl a_least)), (q 55, .inl (E.2.1 0, 4, .inl (upd f_87 (Int32.toNatClampNeg 3) x_96))), (q 54, .inl (E.2.1 0, 7, .inl u_76)), (q 53, .inl (E.2.1 0, 7, .inl f_89))] := hD
    obtain ⟨f_97, ef_97⟩ : ∃ g : Nat → Int32, g = upd f_87 (Int32.toNatClampNeg 3) x_96 := ⟨_, rfl⟩
    rw [← ef_97] at hP hD
    have hI_98 : ∀ k : Nat, k < 4 → inR (f_97 k) 0 127 = true := by rw [ef_97]; exact all_upd (P := fun z => inR z 0 127 = true) hI_88 (by rw [ex_96]; exact or_lt7 _ (by omega) 0 (by decide))
    refine lv_aload_n hx hb dX12_give_196 rfl (lv_at hl 1 rfl) ?_
    refine lv_iload_n hx hb dX12_give_197 rfl (lv_at hl 2 rfl) ?_
    refine lv_iconst (v := 1) hx hb dX12_give_198 (by decide) ?_
    refine lv_iadd hx hb dX12_give_199 ?_
    refine lv_topi (fun x_99 ex_99 => ?_)
    obtain rfl : x_99 = 1 := ex_99.trans (by decide +kernel)
    have hPc := hP.sub (ws' := [(h0, .inr (12, mG q i_taped i_size i_sort i_what i_at i_end i_worth i_faultKind i_faultPlace i_got i_worked (nI dl) i_isPlanned u_73 u_74)), (q 51, .inl (E.2.1 0, 512, .inl a_least)), (q 55, .inl (E.2.1 0, 4, .inl f_97)), (q 54, .inl (E.2.1 0, 7, .inl u_76)), (q 53, .inl (E.2.1 0, 7, .inl f_89))]) [0, 1, 2, 3, 4] rfl
    have hDc := hD.sub (ws' := [(h0, .inr (12, mG q i_taped i_size i_sort i_what i_at i_end i_worth i_faultKind i_faultPlace i_got i_worked (nI dl) i_isPlanned u_73 u_74)), (q 51, .inl (E.2.1 0, 512, .inl a_least)), (q 55, .inl (E.2.1 0, 4, .inl f_97)), (q 54, .inl (E.2.1 0, 7, .inl u_76)), (q 53, .inl (E.2.1 0, 7, .inl f_89))]) [0, 1, 2, 3, 4] (by decide) rfl
    have hFc := va_free (wc := [(h0, .inr (12, mG q i_taped i_size i_sort i_what i_at i_end i_worth i_faultKind i_faultPlace i_got i_worked (nI dl) i_isPlanned u_73 u_74)), (q 51, .inl (E.2.1 0, 512, .inl a_least)), (q 55, .inl (E.2.1 0, 4, .inl f_97)), (q 54, .inl (E.2.1 0, 7, .inl u_76)), (q 53, .inl (E.2.1 0, 7, .inl f_89))]) hD hS hA [0, 1, 2, 3, 4] rfl
    refine va_callv (va_runV (As := [.int 1]) (rest := []) ⟨hx, hb, hml, hown, hts⟩ (c_X12_give1 l E h0 q i_taped i_size i_sort i_what i_at i_end i_worth i_faultKind i_faultPlace i_got i_worked i_isPlanned u_73 u_74 dl a_least f_97 u_76 f_89 H.size hdl hd2 hI_98) (cwV 1 hts gX12_give_X12_give rfl rfl rfl hdV_X12_give ⟨Nat.le_of_ble_eq_true rfl, Nat.le_of_ble_eq_true rfl⟩) ⟨pcW_blind, va_recv hK hPc (ci := 12) (q0 := 0) rfl rfl, (pcW_pre hPc hkn hDc hst hS hFc)⟩ rfl rfl hl.1 rfl (lv_room (Nat.le_of_ble_eq_true rfl)) dX12_give_200 ⟨Nat.le_of_ble_eq_true rfl, Nat.le_of_ble_eq_true rfl⟩) hS (fun q _ h => hFc q h) hFc (fun u t H1 locs ht hvm hw_101 hB hz1 hk1 hS => ?_)
    obtain ⟨u_102, u_103, u_104, u_105, u_106⟩ := u
    obtain ⟨hf_107, hP1, hD1⟩ := hB
    rw [ht] at hP1
    try dsimp only at hw_101
    obtain ⟨hP, hD⟩ := va_join (wr := []) (w1 := [(h0, .inr (12, mG q i_taped i_size i_sort i_what i_at i_end i_worth i_faultKind i_faultPlace i_got i_worked (nI dl) i_isPlanned u_102 u_103)), (q 51, .inl (E.2.1 0, 512, .inl a_least)), (q 55, .inl (E.2.1 0, 4, .inl u_104)), (q 54, .inl (E.2.1 0, 7, .inl u_105)), (q 53, .inl (E.2.1 0, 7, .inl u_106))]) hP hD [0, 1, 2, 3, 4] [] rfl rfl (by decide) (by decide) hk1 hFc hP1 hD1
    generalize H1 = H at hP hS ⊢
    have hP : va_P E.1 vwCl [(h0, .inr (12, mG q i_taped i_size i_sort i_what i_at i_end i_worth i_faultKind i_faultPlace i_got i_worked (nI dl) i_isPlanned u_102 u_103)), (q 51, .inl (E.2.1 0, 512, .inl a_least)), (q 55, .inl (E.2.1 0, 4, .inl u_104)), (q 54, .inl (E.2.1 0, 7, .inl u_105)), (q 53, .inl (E.2.1 0, 7, .inl u_106))] H := hP
    have hD : va_D A [(h0, .inr (12, mG q i_taped i_size i_sort i_what i_at i_end i_worth i_faultKind i_faultPlace i_got i_worked (nI dl) i_isPlanned u_102 u_103)), (q 51, .inl (E.2.1 0, 512, .inl a_least)), (q 55, .inl (E.2.1 0, 4, .inl u_104)), (q 54, .inl (E.2.1 0, 7, .inl u_105)), (q 53, .inl (E.2.1 0, 7, .inl u_106))] := hD
    refine lv_aload_n hx hb dX12_give_203 rfl (lv_at hl 1 rfl) ?_
    refine va_get (D := E.1) (ci := 12) (v := .ref (q 55)) (C := RX12) (T := TX12) (N := 59) hx hb hts inX12 hown hK hP 0 rfl rfl 55 (by decide) fl142 (fun _ h9 => h9) rfl dX12_give_204 ?_
    refine lv_iload_n hx hb dX12_give_207 rfl (lv_at hl 0 rfl) ?_
    refine lv_dup2_11 hx hb dX12_give_208 rfl rfl ?_
    refine va_iald hx hb hK hP 2 0 rfl rfl (show vp_in 3 4 from by unfold vp_in; decide) dX12_give_209 ?_
    refine lv_topi (fun x_108 ex_108 => ?_)
    have hv_109 : inR x_108 0 127 = true := by rw [ex_108]; exact hf_107 _ (vin_cl (show vp_in 3 4 from by unfold vp_in; decide))
    obtain ⟨w_110, hw_111, ew_112⟩ := inR_nI (n := 127) (by decide) hv_109
    subst ew_112
    refine lv_iconst (v := 1) hx hb dX12_give_210 (by decide) ?_
    refine lv_iload_n hx hb dX12_give_211 rfl (lv_at hl 2 rfl) ?_
    refine lv_ishl hx hb dX12_give_212 ?_
    refine lv_topi (fun x_113 ex_113 => ?_)
    obtain rfl : x_113 = 1 := ex_113.trans (by decide +kernel)
    refine lv_iconst (v := (-1)) hx hb dX12_give_213 (by decide) ?_
    refine lv_ixor hx hb dX12_give_214 ?_
    refine lv_topi (fun x_114 ex_114 => ?_)
    obtain rfl : x_114 = (-2) := ex_114.trans (by decide +kernel)
    refine lv_iand hx hb dX12_give_215 ?_
    refine lv_topi (fun x_115 ex_115 => ?_)
    refine va_iast hx hb hK hP hD hS 2 0 rfl rfl (show vp_in 3 4 from by unfold vp_in; decide) dX12_give_216 (fun H locs hP hD hS => ?_)
    have hP : va_P E.1 vwCl [(h0, .inr (12, mG q i_taped i_size i_sort i_what i_at i_end i_worth i_faultKind i_faultPlace i_got i_worked (nI dl) i_isPlanned u_102 u_103)), (q 51, .inl (E.2.1 0, 512, .inl a_least)), (q 55, .inl (E.2.1 0, 4, .inl (upd u_104 (Int32.toNatClampNeg 3) x_115))), (q 54, .inl (E.2.1 0, 7, .inl u_105)), (q 53, .inl (E.2.1 0, 7, .inl u_106))] H := hP
    have hD : va_D A [(h0, .inr (12, mG q i_taped i_size i_sort i_what i_at i_end i_worth i_faultKind i_faultPlace i_got i_worked (nI dl) i_isPlanned u_102 u_103)), (q 51, .inl (E.2.1 0, 512, .inl a_least)), (q 55, .inl (E.2.1 0, 4, .inl (upd u_104 (Int32.toNatClampNeg 3) x_115))), (q 54, .inl (E.2.1 0, 7, .inl u_105)), (q 53, .inl (E.2.1 0, 7, .inl u_106))] := hD
    obtain ⟨f_116, ef_116⟩ : ∃ g : Nat → Int32, g = upd u_104 (Int32.toNatClampNeg 3) x_115 := ⟨_, rfl⟩
    rw [← ef_116] at hP hD
    have hI_117 : ∀ k : Nat, k < 4 → inR (f_116 k) 0 127 = true := by rw [ef_116]; exact all_upd (P := fun z => inR z 0 127 = true) hf_107 (by rw [ex_115]; exact and_lt7 _ (by omega) 0 (by decide))
    refine lv_iinc (v := 4) (lv' := [(2, .int 4), (0, .ref h0), (1, .int 0)]) hx hb dX12_give_217 hl (k := 0) rfl (by decide) (by decide) rfl (fun ls hl => ?_)
    refine lv_goto (tgt := 172) hx hb dX12_give_220 (by decide) ?_
    refine lv_iload_n hx hb dX12_give_172 rfl (lv_at hl 0 rfl) ?_
    refine lv_iconst (v := 4) hx hb dX12_give_173 (by decide) ?_
    refine lv_icmp_ge (tgt := 223) hx hb dX12_give_174 (by decide) (fun _ => ?_) (fun c9 => absurd c9 (by decide))
    refine lv_aload_n hx hb dX12_give_223 rfl (lv_at hl 1 rfl) ?_
    refine va_get (D := E.1) (ci := 12) (v := .ref (q 53)) (C := RX12) (T := TX12) (N := 59) hx hb hts inX12 hown hK hP 0 rfl rfl 53 (by decide) fl136 (fun _ h9 => h9) rfl dX12_give_224 ?_
    refine lv_iload_n hx hb dX12_give_227 rfl (lv_at hl 2 rfl) ?_
    refine lv_iconst (v := (-1)) hx hb dX12_give_228 (by decide) ?_
    refine va_iast hx hb hK hP hD hS 4 0 rfl rfl (show vp_in 0 7 from by unfold vp_in; decide) dX12_give_229 (fun H locs hP hD hS => ?_)
    have hP : va_P E.1 vwCl [(h0, .inr (12, mG q i_taped i_size i_sort i_what i_at i_end i_worth i_faultKind i_faultPlace i_got i_worked (nI dl) i_isPlanned u_102 u_103)), (q 51, .inl (E.2.1 0, 512, .inl a_least)), (q 55, .inl (E.2.1 0, 4, .inl f_116)), (q 54, .inl (E.2.1 0, 7, .inl u_105)), (q 53, .inl (E.2.1 0, 7, .inl (upd u_106 (Int32.toNatClampNeg 0) (-1))))] H := hP
    have hD : va_D A [(h0, .inr (12, mG q i_taped i_size i_sort i_what i_at i_end i_worth i_faultKind i_faultPlace i_got i_worked (nI dl) i_isPlanned u_102 u_103)), (q 51, .inl (E.2.1 0, 512, .inl a_least)), (q 55, .inl (E.2.1 0, 4, .inl f_116)), (q 54, .inl (E.2.1 0, 7, .inl u_105)), (q 53, .inl (E.2.1 0, 7, .inl (upd u_106 (Int32.toNatClampNeg 0) (-1))))] := hD
    obtain ⟨f_118, ef_118⟩ : ∃ g : Nat → Int32, g = upd u_106 (Int32.toNatClampNeg 0) (-1) := ⟨_, rfl⟩
    rw [← ef_118] at hP hD
    refine lv_aload_n hx hb dX12_give_230 rfl (lv_at hl 1 rfl) ?_
    refine lv_iload_n hx hb dX12_give_231 rfl (lv_at hl 2 rfl) ?_
    refine lv_iconst (v := 1) hx hb dX12_give_232 (by decide) ?_
    refine lv_iadd hx hb dX12_give_233 ?_
    refine lv_topi (fun x_119 ex_119 => ?_)
    obtain rfl : x_119 = 1 := ex_119.trans (by decide +kernel)
    have hPc := hP.sub (ws' := [(h0, .inr (12, mG q i_taped i_size i_sort i_what i_at i_end i_worth i_faultKind i_faultPlace i_got i_worked (nI dl) i_isPlanned u_102 u_103)), (q 51, .inl (E.2.1 0, 512, .inl a_least)), (q 55, .inl (E.2.1 0, 4, .inl f_116)), (q 54, .inl (E.2.1 0, 7, .inl u_105)), (q 53, .inl (E.2.1 0, 7, .inl f_118))]) [0, 1, 2, 3, 4] rfl
    have hDc := hD.sub (ws' := [(h0, .inr (12, mG q i_taped i_size i_sort i_what i_at i_end i_worth i_faultKind i_faultPlace i_got i_worked (nI dl) i_isPlanned u_102 u_103)), (q 51, .inl (E.2.1 0, 512, .inl a_least)), (q 55, .inl (E.2.1 0, 4, .inl f_116)), (q 54, .inl (E.2.1 0, 7, .inl u_105)), (q 53, .inl (E.2.1 0, 7, .inl f_118))]) [0, 1, 2, 3, 4] (by decide) rfl
    have hFc := va_free (wc := [(h0, .inr (12, mG q i_taped i_size i_sort i_what i_at i_end i_worth i_faultKind i_faultPlace i_got i_worked (nI dl) i_isPlanned u_102 u_103)), (q 51, .inl (E.2.1 0, 512, .inl a_least)), (q 55, .inl (E.2.1 0, 4, .inl f_116)), (q 54, .inl (E.2.1 0, 7, .inl u_105)), (q 53, .inl (E.2.1 0, 7, .inl f_118))]) hD hS hA [0, 1, 2, 3, 4] rfl
    refine va_callv (va_runV (As := [.int 1]) (rest := []) ⟨hx, hb, hml, hown, hts⟩ (c_X12_give1 l E h0 q i_taped i_size i_sort i_what i_at i_end i_worth i_faultKind i_faultPlace i_got i_worked i_isPlanned u_102 u_103 dl a_least f_116 u_105 f_118 H.size hdl hd2 hI_117) (cwV 1 hts gX12_give_X12_give rfl rfl rfl hdV_X12_give ⟨Nat.le_of_ble_eq_true rfl, Nat.le_of_ble_eq_true rfl⟩) ⟨pcW_blind, va_recv hK hPc (ci := 12) (q0 := 0) rfl rfl, (pcW_pre hPc hkn hDc hst hS hFc)⟩ rfl rfl hl.1 rfl (lv_room (Nat.le_of_ble_eq_true rfl)) dX12_give_234 ⟨Nat.le_of_ble_eq_true rfl, Nat.le_of_ble_eq_true rfl⟩) hS (fun q _ h => hFc q h) hFc (fun u t H1 locs ht hvm hw_121 hB hz1 hk1 hS => ?_)
    obtain ⟨u_122, u_123, u_124, u_125, u_126⟩ := u
    obtain ⟨hf_127, hP1, hD1⟩ := hB
    rw [ht] at hP1
    try dsimp only at hw_121
    obtain ⟨hP, hD⟩ := va_join (wr := []) (w1 := [(h0, .inr (12, mG q i_taped i_size i_sort i_what i_at i_end i_worth i_faultKind i_faultPlace i_got i_worked (nI dl) i_isPlanned u_122 u_123)), (q 51, .inl (E.2.1 0, 512, .inl a_least)), (q 55, .inl (E.2.1 0, 4, .inl u_124)), (q 54, .inl (E.2.1 0, 7, .inl u_125)), (q 53, .inl (E.2.1 0, 7, .inl u_126))]) hP hD [0, 1, 2, 3, 4] [] rfl rfl (by decide) (by decide) hk1 hFc hP1 hD1
    generalize H1 = H at hP hS ⊢
    have hP : va_P E.1 vwCl [(h0, .inr (12, mG q i_taped i_size i_sort i_what i_at i_end i_worth i_faultKind i_faultPlace i_got i_worked (nI dl) i_isPlanned u_122 u_123)), (q 51, .inl (E.2.1 0, 512, .inl a_least)), (q 55, .inl (E.2.1 0, 4, .inl u_124)), (q 54, .inl (E.2.1 0, 7, .inl u_125)), (q 53, .inl (E.2.1 0, 7, .inl u_126))] H := hP
    have hD : va_D A [(h0, .inr (12, mG q i_taped i_size i_sort i_what i_at i_end i_worth i_faultKind i_faultPlace i_got i_worked (nI dl) i_isPlanned u_122 u_123)), (q 51, .inl (E.2.1 0, 512, .inl a_least)), (q 55, .inl (E.2.1 0, 4, .inl u_124)), (q 54, .inl (E.2.1 0, 7, .inl u_125)), (q 53, .inl (E.2.1 0, 7, .inl u_126))] := hD
    have hP9 := hP.sub (ws' := [(h0, .inr (12, mG q i_taped i_size i_sort i_what i_at i_end i_worth i_faultKind i_faultPlace i_got i_worked (nI dl) i_isPlanned u_122 u_123)), (q 51, .inl (E.2.1 0, 512, .inl a_least)), (q 55, .inl (E.2.1 0, 4, .inl u_124)), (q 54, .inl (E.2.1 0, 7, .inl u_125)), (q 53, .inl (E.2.1 0, 7, .inl u_126))]) [0, 1, 2, 3, 4] rfl
    have hD9 := hD.sub (ws' := [(h0, .inr (12, mG q i_taped i_size i_sort i_what i_at i_end i_worth i_faultKind i_faultPlace i_got i_worked (nI dl) i_isPlanned u_122 u_123)), (q 51, .inl (E.2.1 0, 512, .inl a_least)), (q 55, .inl (E.2.1 0, 4, .inl u_124)), (q 54, .inl (E.2.1 0, 7, .inl u_125)), (q 53, .inl (E.2.1 0, 7, .inl u_126))]) [0, 1, 2, 3, 4] (by decide) rfl
    exact W.vret hx hb hr (fun t ht hW => ⟨⟨(u_122, u_123, u_124, u_125, u_126), rfl, trivial, hf_127, by rw [ht]; exact hP9, hD9⟩, hS.F ht⟩) hS.2.2 dX12_give_237
  · refine lv_iconst (v := 0) hx hb dX12_give_8 (by decide) ?_
    refine lv_istore_n (lv' := [(2, .int 0), (0, .ref h0), (1, .int 0)]) hx hb dX12_give_9 rfl hl (by decide) rfl (fun ls hl => ?_)
    refine lv_iconst (v := 0) hx hb dX12_give_10 (by decide) ?_
    refine lv_istore_n (lv' := [(3, .int 0), (2, .int 0), (0, .ref h0), (1, .int 0)]) hx hb dX12_give_11 rfl hl (by decide) rfl (fun ls hl => ?_)
    refine lv_iconst (v := 0) hx hb dX12_give_12 (by decide) ?_
    refine lv_istore (lv' := [(4, .int 0), (3, .int 0), (2, .int 0), (0, .ref h0), (1, .int 0)]) hx hb dX12_give_13 hl (by decide) rfl (fun ls hl => ?_)
    refine lv_iload hx hb dX12_give_15 (lv_at hl 0 rfl) ?_
    refine lv_iconst (v := 4) hx hb dX12_give_17 (by decide) ?_
    refine lv_icmp_ge (tgt := 102) hx hb dX12_give_18 (by decide) (fun c9 => absurd c9 (by decide)) (fun _ => ?_)
    refine lv_aload_n hx hb dX12_give_21 rfl (lv_at hl 3 rfl) ?_
    refine va_get (D := E.1) (ci := 12) (v := .ref (q 51)) (C := RX12) (T := TX12) (N := 59) hx hb hts inX12 hown hK hP 0 rfl rfl 51 (by decide) fl130 (fun _ h9 => h9) rfl dX12_give_22 ?_
    refine lv_sipush (v := 128) hx hb dX12_give_25 (by decide) ?_
    refine lv_iload hx hb dX12_give_28 (lv_at hl 0 rfl) ?_
    refine lv_imul hx hb dX12_give_30 ?_
    refine lv_topi (fun x_128 ex_128 => ?_)
    obtain rfl : x_128 = 0 := ex_128.trans (by decide +kernel)
    refine lv_aload_n hx hb dX12_give_31 rfl (lv_at hl 3 rfl) ?_
    refine va_get (D := E.1) (ci := 12) (v := .ref (q 55)) (C := RX12) (T := TX12) (N := 59) hx hb hts inX12 hown hK hP 0 rfl rfl 55 (by decide) fl142 (fun _ h9 => h9) rfl dX12_give_32 ?_
    refine lv_iload hx hb dX12_give_35 (lv_at hl 0 rfl) ?_
    refine va_iald hx hb hK hP 2 0 rfl rfl (show vp_in 0 4 from by unfold vp_in; decide) dX12_give_37 ?_
    refine lv_topi (fun x_129 ex_129 => ?_)
    have hv_130 : inR x_129 0 127 = true := by rw [ex_129]; exact hI_sets _ (vin_cl (show vp_in 0 4 from by unfold vp_in; decide))
    obtain ⟨w_131, hw_132, ew_133⟩ := inR_nI (n := 127) (by decide) hv_130
    subst ew_133
    refine lv_iadd hx hb dX12_give_38 ?_
    refine lv_topi (fun x_134 ex_134 => ?_)
    obtain rfl : x_134 = nI (0 + w_131) := ex_134.trans (nI_add 0 w_131)
    have hi_135 : vp_in (nI (0 + w_131)) 512 := vp_in_nI (by omega) (by decide)
    refine va_iald hx hb hK hP 1 0 rfl rfl hi_135 dX12_give_39 ?_
    refine lv_topi (fun x_136 ex_136 => ?_)
    refine lv_iconst (v := (-1)) hx hb dX12_give_40 (by decide) ?_
    refine lv_icmp_ne (tgt := 45) hx hb dX12_give_41 (by decide) (fun c_137 => ?_) (fun c_137 => ?_)
    · refine lv_iload_n hx hb dX12_give_45 rfl (lv_at hl 1 rfl) ?_
      refine lv_aload_n hx hb dX12_give_46 rfl (lv_at hl 3 rfl) ?_
      refine va_get (D := E.1) (ci := 12) (v := .ref (q 51)) (C := RX12) (T := TX12) (N := 59) hx hb hts inX12 hown hK hP 0 rfl rfl 51 (by decide) fl130 (fun _ h9 => h9) rfl dX12_give_47 ?_
      refine lv_sipush (v := 128) hx hb dX12_give_50 (by decide) ?_
      refine lv_iload hx hb dX12_give_53 (lv_at hl 0 rfl) ?_
      refine lv_imul hx hb dX12_give_55 ?_
      refine lv_topi (fun x_138 ex_138 => ?_)
      obtain rfl : x_138 = 0 := ex_138.trans (by decide +kernel)
      refine lv_aload_n hx hb dX12_give_56 rfl (lv_at hl 3 rfl) ?_
      refine va_get (D := E.1) (ci := 12) (v := .ref (q 55)) (C := RX12) (T := TX12) (N := 59) hx hb hts inX12 hown hK hP 0 rfl rfl 55 (by decide) fl142 (fun _ h9 => h9) rfl dX12_give_57 ?_
      refine lv_iload hx hb dX12_give_60 (lv_at hl 0 rfl) ?_
      refine va_iald hx hb hK hP 2 0 rfl rfl (show vp_in 0 4 from by unfold vp_in; decide) dX12_give_62 ?_
      refine lv_topi (fun x_139 ex_139 => ?_)
      obtain rfl : x_139 = nI w_131 := ex_139.trans ex_129.symm
      refine lv_iadd hx hb dX12_give_63 ?_
      refine lv_topi (fun x_140 ex_140 => ?_)
      obtain rfl : x_140 = nI (0 + w_131) := ex_140.trans (nI_add 0 w_131)
      refine va_iald hx hb hK hP 1 0 rfl rfl hi_135 dX12_give_64 ?_
      refine lv_topi (fun x_141 ex_141 => ?_)
      refine lv_iadd hx hb dX12_give_65 ?_
      refine lv_topi (fun x_142 ex_142 => ?_)
      refine lv_istore_n (lv' := [(3, .int x_142), (4, .int 0), (2, .int 0), (0, .ref h0), (1, .int 0)]) hx hb dX12_give_66 rfl hl (by decide) rfl (fun ls hl => ?_)
      refine lv_aload_n hx hb dX12_give_67 rfl (lv_at hl 3 rfl) ?_
      refine va_get (D := E.1) (ci := 12) (v := .ref (q 55)) (C := RX12) (T := TX12) (N := 59) hx hb hts inX12 hown hK hP 0 rfl rfl 55 (by decide) fl142 (fun _ h9 => h9) rfl dX12_give_68 ?_
      refine lv_iload hx hb dX12_give_71 (lv_at hl 1 rfl) ?_
      refine va_iald hx hb hK hP 2 0 rfl rfl (show vp_in 0 4 from by unfold vp_in; decide) dX12_give_73 ?_
      refine lv_topi (fun x_143 ex_143 => ?_)
      obtain rfl : x_143 = nI w_131 := ex_143.trans ex_129.symm
      refine lv_istore (lv' := [(5, .int (nI w_131)), (3, .int x_142), (4, .int 0), (2, .int 0), (0, .ref h0), (1, .int 0)]) hx hb dX12_give_74 hl (by decide) rfl (fun ls hl => ?_)
      have hPl := hP.sub (ws' := [(h0, .inr (12, mG q i_taped i_size i_sort i_what i_at i_end i_worth i_faultKind i_faultPlace i_got i_worked (nI dl) i_isPlanned i_bestDone i_bestCost)), (q 51, .inl (E.2.1 0, 512, .inl a_least)), (q 55, .inl (E.2.1 0, 4, .inl a_sets)), (q 54, .inl (E.2.1 0, 7, .inl a_bestGiven)), (q 53, .inl (E.2.1 0, 7, .inl a_given))]) [0, 1, 2, 3, 4] rfl
      have hDl := hD.sub (ws' := [(h0, .inr (12, mG q i_taped i_size i_sort i_what i_at i_end i_worth i_faultKind i_faultPlace i_got i_worked (nI dl) i_isPlanned i_bestDone i_bestCost)), (q 51, .inl (E.2.1 0, 512, .inl a_least)), (q 55, .inl (E.2.1 0, 4, .inl a_sets)), (q 54, .inl (E.2.1 0, 7, .inl a_bestGiven)), (q 53, .inl (E.2.1 0, 7, .inl a_given))]) [0, 1, 2, 3, 4] (by decide) rfl
      refine lm_bits E h0 q i_taped i_size i_sort i_what i_at i_end i_worth i_faultKind i_faultPlace i_got i_worked i_isPlanned i_bestDone i_bestCost dl x_142 0 ([(q 51, .inl (E.2.1 0, 512, .inl a_least)), (q 55, .inl (E.2.1 0, 4, .inl a_sets)), (q 54, .inl (E.2.1 0, 7, .inl a_bestGiven)), (q 53, .inl (E.2.1 0, 7, .inl a_given))]) hx hb hml hown hts hkn hst hA  (fun n_144 H locs ls  hP hD hS hl => ?_) (w_131 + 1) w_131 0 _ _ _ (Nat.lt_succ_self _) hPl hDl hS (lv_sub hl [4, 3, 1, 2, 0] rfl)
      have hP : va_P E.1 vwCl [(h0, .inr (12, mG q i_taped i_size i_sort i_what i_at i_end i_worth i_faultKind i_faultPlace i_got i_worked (nI dl) i_isPlanned i_bestDone i_bestCost)), (q 51, .inl (E.2.1 0, 512, .inl a_least)), (q 55, .inl (E.2.1 0, 4, .inl a_sets)), (q 54, .inl (E.2.1 0, 7, .inl a_bestGiven)), (q 53, .inl (E.2.1 0, 7, .inl a_given))] H := hP
      have hD : va_D A [(h0, .inr (12, mG q i_taped i_size i_sort i_what i_at i_end i_worth i_faultKind i_faultPlace i_got i_worked (nI dl) i_isPlanned i_bestDone i_bestCost)), (q 51, .inl (E.2.1 0, 512, .inl a_least)), (q 55, .inl (E.2.1 0, 4, .inl a_sets)), (q 54, .inl (E.2.1 0, 7, .inl a_bestGiven)), (q 53, .inl (E.2.1 0, 7, .inl a_given))] := hD
      refine lv_iinc (v := 1) (lv' := [(4, .int 1), (0, .ref h0), (2, .int n_144), (3, .int x_142)]) hx hb dX12_give_96 hl (k := 3) rfl (by decide) (by decide) rfl (fun ls hl => ?_)
      refine lv_goto (tgt := 15) hx hb dX12_give_99 (by decide) ?_
      refine lv_iload hx hb dX12_give_15 (lv_at hl 0 rfl) ?_
      refine lv_iconst (v := 4) hx hb dX12_give_17 (by decide) ?_
      refine lv_icmp_ge (tgt := 102) hx hb dX12_give_18 (by decide) (fun c9 => absurd c9 (by decide)) (fun _ => ?_)
      refine lv_aload_n hx hb dX12_give_21 rfl (lv_at hl 1 rfl) ?_
      refine va_get (D := E.1) (ci := 12) (v := .ref (q 51)) (C := RX12) (T := TX12) (N := 59) hx hb hts inX12 hown hK hP 0 rfl rfl 51 (by decide) fl130 (fun _ h9 => h9) rfl dX12_give_22 ?_
      refine lv_sipush (v := 128) hx hb dX12_give_25 (by decide) ?_
      refine lv_iload hx hb dX12_give_28 (lv_at hl 0 rfl) ?_
      refine lv_imul hx hb dX12_give_30 ?_
      refine lv_topi (fun x_145 ex_145 => ?_)
      obtain rfl : x_145 = 128 := ex_145.trans (by decide +kernel)
      refine lv_aload_n hx hb dX12_give_31 rfl (lv_at hl 1 rfl) ?_
      refine va_get (D := E.1) (ci := 12) (v := .ref (q 55)) (C := RX12) (T := TX12) (N := 59) hx hb hts inX12 hown hK hP 0 rfl rfl 55 (by decide) fl142 (fun _ h9 => h9) rfl dX12_give_32 ?_
      refine lv_iload hx hb dX12_give_35 (lv_at hl 0 rfl) ?_
      refine va_iald hx hb hK hP 2 0 rfl rfl (show vp_in 1 4 from by unfold vp_in; decide) dX12_give_37 ?_
      refine lv_topi (fun x_146 ex_146 => ?_)
      have hv_147 : inR x_146 0 127 = true := by rw [ex_146]; exact hI_sets _ (vin_cl (show vp_in 1 4 from by unfold vp_in; decide))
      obtain ⟨w_148, hw_149, ew_150⟩ := inR_nI (n := 127) (by decide) hv_147
      subst ew_150
      refine lv_iadd hx hb dX12_give_38 ?_
      refine lv_topi (fun x_151 ex_151 => ?_)
      obtain rfl : x_151 = nI (128 + w_148) := ex_151.trans (nI_add 128 w_148)
      have hi_152 : vp_in (nI (128 + w_148)) 512 := vp_in_nI (by omega) (by decide)
      refine va_iald hx hb hK hP 1 0 rfl rfl hi_152 dX12_give_39 ?_
      refine lv_topi (fun x_153 ex_153 => ?_)
      refine lv_iconst (v := (-1)) hx hb dX12_give_40 (by decide) ?_
      refine lv_icmp_ne (tgt := 45) hx hb dX12_give_41 (by decide) (fun c_154 => ?_) (fun c_154 => ?_)
      · refine lv_iload_n hx hb dX12_give_45 rfl (lv_at hl 3 rfl) ?_
        refine lv_aload_n hx hb dX12_give_46 rfl (lv_at hl 1 rfl) ?_
        refine va_get (D := E.1) (ci := 12) (v := .ref (q 51)) (C := RX12) (T := TX12) (N := 59) hx hb hts inX12 hown hK hP 0 rfl rfl 51 (by decide) fl130 (fun _ h9 => h9) rfl dX12_give_47 ?_
        refine lv_sipush (v := 128) hx hb dX12_give_50 (by decide) ?_
        refine lv_iload hx hb dX12_give_53 (lv_at hl 0 rfl) ?_
        refine lv_imul hx hb dX12_give_55 ?_
        refine lv_topi (fun x_155 ex_155 => ?_)
        obtain rfl : x_155 = 128 := ex_155.trans (by decide +kernel)
        refine lv_aload_n hx hb dX12_give_56 rfl (lv_at hl 1 rfl) ?_
        refine va_get (D := E.1) (ci := 12) (v := .ref (q 55)) (C := RX12) (T := TX12) (N := 59) hx hb hts inX12 hown hK hP 0 rfl rfl 55 (by decide) fl142 (fun _ h9 => h9) rfl dX12_give_57 ?_
        refine lv_iload hx hb dX12_give_60 (lv_at hl 0 rfl) ?_
        refine va_iald hx hb hK hP 2 0 rfl rfl (show vp_in 1 4 from by unfold vp_in; decide) dX12_give_62 ?_
        refine lv_topi (fun x_156 ex_156 => ?_)
        obtain rfl : x_156 = nI w_148 := ex_156.trans ex_146.symm
        refine lv_iadd hx hb dX12_give_63 ?_
        refine lv_topi (fun x_157 ex_157 => ?_)
        obtain rfl : x_157 = nI (128 + w_148) := ex_157.trans (nI_add 128 w_148)
        refine va_iald hx hb hK hP 1 0 rfl rfl hi_152 dX12_give_64 ?_
        refine lv_topi (fun x_158 ex_158 => ?_)
        refine lv_iadd hx hb dX12_give_65 ?_
        refine lv_topi (fun x_159 ex_159 => ?_)
        refine lv_istore_n (lv' := [(3, .int x_159), (4, .int 1), (0, .ref h0), (2, .int n_144)]) hx hb dX12_give_66 rfl hl (by decide) rfl (fun ls hl => ?_)
        refine lv_aload_n hx hb dX12_give_67 rfl (lv_at hl 2 rfl) ?_
        refine va_get (D := E.1) (ci := 12) (v := .ref (q 55)) (C := RX12) (T := TX12) (N := 59) hx hb hts inX12 hown hK hP 0 rfl rfl 55 (by decide) fl142 (fun _ h9 => h9) rfl dX12_give_68 ?_
        refine lv_iload hx hb dX12_give_71 (lv_at hl 1 rfl) ?_
        refine va_iald hx hb hK hP 2 0 rfl rfl (show vp_in 1 4 from by unfold vp_in; decide) dX12_give_73 ?_
        refine lv_topi (fun x_160 ex_160 => ?_)
        obtain rfl : x_160 = nI w_148 := ex_160.trans ex_146.symm
        refine lv_istore (lv' := [(5, .int (nI w_148)), (3, .int x_159), (4, .int 1), (0, .ref h0), (2, .int n_144)]) hx hb dX12_give_74 hl (by decide) rfl (fun ls hl => ?_)
        have hPl := hP.sub (ws' := [(h0, .inr (12, mG q i_taped i_size i_sort i_what i_at i_end i_worth i_faultKind i_faultPlace i_got i_worked (nI dl) i_isPlanned i_bestDone i_bestCost)), (q 51, .inl (E.2.1 0, 512, .inl a_least)), (q 55, .inl (E.2.1 0, 4, .inl a_sets)), (q 54, .inl (E.2.1 0, 7, .inl a_bestGiven)), (q 53, .inl (E.2.1 0, 7, .inl a_given))]) [0, 1, 2, 3, 4] rfl
        have hDl := hD.sub (ws' := [(h0, .inr (12, mG q i_taped i_size i_sort i_what i_at i_end i_worth i_faultKind i_faultPlace i_got i_worked (nI dl) i_isPlanned i_bestDone i_bestCost)), (q 51, .inl (E.2.1 0, 512, .inl a_least)), (q 55, .inl (E.2.1 0, 4, .inl a_sets)), (q 54, .inl (E.2.1 0, 7, .inl a_bestGiven)), (q 53, .inl (E.2.1 0, 7, .inl a_given))]) [0, 1, 2, 3, 4] (by decide) rfl
        refine lm_bits E h0 q i_taped i_size i_sort i_what i_at i_end i_worth i_faultKind i_faultPlace i_got i_worked i_isPlanned i_bestDone i_bestCost dl x_159 1 ([(q 51, .inl (E.2.1 0, 512, .inl a_least)), (q 55, .inl (E.2.1 0, 4, .inl a_sets)), (q 54, .inl (E.2.1 0, 7, .inl a_bestGiven)), (q 53, .inl (E.2.1 0, 7, .inl a_given))]) hx hb hml hown hts hkn hst hA  (fun n_161 H locs ls  hP hD hS hl => ?_) (w_148 + 1) w_148 n_144 _ _ _ (Nat.lt_succ_self _) hPl hDl hS (lv_sub hl [3, 4, 1, 2, 0] rfl)
        have hP : va_P E.1 vwCl [(h0, .inr (12, mG q i_taped i_size i_sort i_what i_at i_end i_worth i_faultKind i_faultPlace i_got i_worked (nI dl) i_isPlanned i_bestDone i_bestCost)), (q 51, .inl (E.2.1 0, 512, .inl a_least)), (q 55, .inl (E.2.1 0, 4, .inl a_sets)), (q 54, .inl (E.2.1 0, 7, .inl a_bestGiven)), (q 53, .inl (E.2.1 0, 7, .inl a_given))] H := hP
        have hD : va_D A [(h0, .inr (12, mG q i_taped i_size i_sort i_what i_at i_end i_worth i_faultKind i_faultPlace i_got i_worked (nI dl) i_isPlanned i_bestDone i_bestCost)), (q 51, .inl (E.2.1 0, 512, .inl a_least)), (q 55, .inl (E.2.1 0, 4, .inl a_sets)), (q 54, .inl (E.2.1 0, 7, .inl a_bestGiven)), (q 53, .inl (E.2.1 0, 7, .inl a_given))] := hD
        refine lv_iinc (v := 2) (lv' := [(4, .int 2), (0, .ref h0), (2, .int n_161), (3, .int x_159)]) hx hb dX12_give_96 hl (k := 3) rfl (by decide) (by decide) rfl (fun ls hl => ?_)
        refine lv_goto (tgt := 15) hx hb dX12_give_99 (by decide) ?_
        refine lv_iload hx hb dX12_give_15 (lv_at hl 0 rfl) ?_
        refine lv_iconst (v := 4) hx hb dX12_give_17 (by decide) ?_
        refine lv_icmp_ge (tgt := 102) hx hb dX12_give_18 (by decide) (fun c9 => absurd c9 (by decide)) (fun _ => ?_)
        refine lv_aload_n hx hb dX12_give_21 rfl (lv_at hl 1 rfl) ?_
        refine va_get (D := E.1) (ci := 12) (v := .ref (q 51)) (C := RX12) (T := TX12) (N := 59) hx hb hts inX12 hown hK hP 0 rfl rfl 51 (by decide) fl130 (fun _ h9 => h9) rfl dX12_give_22 ?_
        refine lv_sipush (v := 128) hx hb dX12_give_25 (by decide) ?_
        refine lv_iload hx hb dX12_give_28 (lv_at hl 0 rfl) ?_
        refine lv_imul hx hb dX12_give_30 ?_
        refine lv_topi (fun x_162 ex_162 => ?_)
        obtain rfl : x_162 = 256 := ex_162.trans (by decide +kernel)
        refine lv_aload_n hx hb dX12_give_31 rfl (lv_at hl 1 rfl) ?_
        refine va_get (D := E.1) (ci := 12) (v := .ref (q 55)) (C := RX12) (T := TX12) (N := 59) hx hb hts inX12 hown hK hP 0 rfl rfl 55 (by decide) fl142 (fun _ h9 => h9) rfl dX12_give_32 ?_
        refine lv_iload hx hb dX12_give_35 (lv_at hl 0 rfl) ?_
        refine va_iald hx hb hK hP 2 0 rfl rfl (show vp_in 2 4 from by unfold vp_in; decide) dX12_give_37 ?_
        refine lv_topi (fun x_163 ex_163 => ?_)
        have hv_164 : inR x_163 0 127 = true := by rw [ex_163]; exact hI_sets _ (vin_cl (show vp_in 2 4 from by unfold vp_in; decide))
        obtain ⟨w_165, hw_166, ew_167⟩ := inR_nI (n := 127) (by decide) hv_164
        subst ew_167
        refine lv_iadd hx hb dX12_give_38 ?_
        refine lv_topi (fun x_168 ex_168 => ?_)
        obtain rfl : x_168 = nI (256 + w_165) := ex_168.trans (nI_add 256 w_165)
        have hi_169 : vp_in (nI (256 + w_165)) 512 := vp_in_nI (by omega) (by decide)
        refine va_iald hx hb hK hP 1 0 rfl rfl hi_169 dX12_give_39 ?_
        refine lv_topi (fun x_170 ex_170 => ?_)
        refine lv_iconst (v := (-1)) hx hb dX12_give_40 (by decide) ?_
        refine lv_icmp_ne (tgt := 45) hx hb dX12_give_41 (by decide) (fun c_171 => ?_) (fun c_171 => ?_)
        · refine lv_iload_n hx hb dX12_give_45 rfl (lv_at hl 3 rfl) ?_
          refine lv_aload_n hx hb dX12_give_46 rfl (lv_at hl 1 rfl) ?_
          refine va_get (D := E.1) (ci := 12) (v := .ref (q 51)) (C := RX12) (T := TX12) (N := 59) hx hb hts inX12 hown hK hP 0 rfl rfl 51 (by decide) fl130 (fun _ h9 => h9) rfl dX12_give_47 ?_
          refine lv_sipush (v := 128) hx hb dX12_give_50 (by decide) ?_
          refine lv_iload hx hb dX12_give_53 (lv_at hl 0 rfl) ?_
          refine lv_imul hx hb dX12_give_55 ?_
          refine lv_topi (fun x_172 ex_172 => ?_)
          obtain rfl : x_172 = 256 := ex_172.trans (by decide +kernel)
          refine lv_aload_n hx hb dX12_give_56 rfl (lv_at hl 1 rfl) ?_
          refine va_get (D := E.1) (ci := 12) (v := .ref (q 55)) (C := RX12) (T := TX12) (N := 59) hx hb hts inX12 hown hK hP 0 rfl rfl 55 (by decide) fl142 (fun _ h9 => h9) rfl dX12_give_57 ?_
          refine lv_iload hx hb dX12_give_60 (lv_at hl 0 rfl) ?_
          refine va_iald hx hb hK hP 2 0 rfl rfl (show vp_in 2 4 from by unfold vp_in; decide) dX12_give_62 ?_
          refine lv_topi (fun x_173 ex_173 => ?_)
          obtain rfl : x_173 = nI w_165 := ex_173.trans ex_163.symm
          refine lv_iadd hx hb dX12_give_63 ?_
          refine lv_topi (fun x_174 ex_174 => ?_)
          obtain rfl : x_174 = nI (256 + w_165) := ex_174.trans (nI_add 256 w_165)
          refine va_iald hx hb hK hP 1 0 rfl rfl hi_169 dX12_give_64 ?_
          refine lv_topi (fun x_175 ex_175 => ?_)
          refine lv_iadd hx hb dX12_give_65 ?_
          refine lv_topi (fun x_176 ex_176 => ?_)
          refine lv_istore_n (lv' := [(3, .int x_176), (4, .int 2), (0, .ref h0), (2, .int n_161)]) hx hb dX12_give_66 rfl hl (by decide) rfl (fun ls hl => ?_)
          refine lv_aload_n hx hb dX12_give_67 rfl (lv_at hl 2 rfl) ?_
          refine va_get (D := E.1) (ci := 12) (v := .ref (q 55)) (C := RX12) (T := TX12) (N := 59) hx hb hts inX12 hown hK hP 0 rfl rfl 55 (by decide) fl142 (fun _ h9 => h9) rfl dX12_give_68 ?_
          refine lv_iload hx hb dX12_give_71 (lv_at hl 1 rfl) ?_
          refine va_iald hx hb hK hP 2 0 rfl rfl (show vp_in 2 4 from by unfold vp_in; decide) dX12_give_73 ?_
          refine lv_topi (fun x_177 ex_177 => ?_)
          obtain rfl : x_177 = nI w_165 := ex_177.trans ex_163.symm
          refine lv_istore (lv' := [(5, .int (nI w_165)), (3, .int x_176), (4, .int 2), (0, .ref h0), (2, .int n_161)]) hx hb dX12_give_74 hl (by decide) rfl (fun ls hl => ?_)
          have hPl := hP.sub (ws' := [(h0, .inr (12, mG q i_taped i_size i_sort i_what i_at i_end i_worth i_faultKind i_faultPlace i_got i_worked (nI dl) i_isPlanned i_bestDone i_bestCost)), (q 51, .inl (E.2.1 0, 512, .inl a_least)), (q 55, .inl (E.2.1 0, 4, .inl a_sets)), (q 54, .inl (E.2.1 0, 7, .inl a_bestGiven)), (q 53, .inl (E.2.1 0, 7, .inl a_given))]) [0, 1, 2, 3, 4] rfl
          have hDl := hD.sub (ws' := [(h0, .inr (12, mG q i_taped i_size i_sort i_what i_at i_end i_worth i_faultKind i_faultPlace i_got i_worked (nI dl) i_isPlanned i_bestDone i_bestCost)), (q 51, .inl (E.2.1 0, 512, .inl a_least)), (q 55, .inl (E.2.1 0, 4, .inl a_sets)), (q 54, .inl (E.2.1 0, 7, .inl a_bestGiven)), (q 53, .inl (E.2.1 0, 7, .inl a_given))]) [0, 1, 2, 3, 4] (by decide) rfl
          refine lm_bits E h0 q i_taped i_size i_sort i_what i_at i_end i_worth i_faultKind i_faultPlace i_got i_worked i_isPlanned i_bestDone i_bestCost dl x_176 2 ([(q 51, .inl (E.2.1 0, 512, .inl a_least)), (q 55, .inl (E.2.1 0, 4, .inl a_sets)), (q 54, .inl (E.2.1 0, 7, .inl a_bestGiven)), (q 53, .inl (E.2.1 0, 7, .inl a_given))]) hx hb hml hown hts hkn hst hA  (fun n_178 H locs ls  hP hD hS hl => ?_) (w_165 + 1) w_165 n_161 _ _ _ (Nat.lt_succ_self _) hPl hDl hS (lv_sub hl [3, 4, 1, 2, 0] rfl)
          have hP : va_P E.1 vwCl [(h0, .inr (12, mG q i_taped i_size i_sort i_what i_at i_end i_worth i_faultKind i_faultPlace i_got i_worked (nI dl) i_isPlanned i_bestDone i_bestCost)), (q 51, .inl (E.2.1 0, 512, .inl a_least)), (q 55, .inl (E.2.1 0, 4, .inl a_sets)), (q 54, .inl (E.2.1 0, 7, .inl a_bestGiven)), (q 53, .inl (E.2.1 0, 7, .inl a_given))] H := hP
          have hD : va_D A [(h0, .inr (12, mG q i_taped i_size i_sort i_what i_at i_end i_worth i_faultKind i_faultPlace i_got i_worked (nI dl) i_isPlanned i_bestDone i_bestCost)), (q 51, .inl (E.2.1 0, 512, .inl a_least)), (q 55, .inl (E.2.1 0, 4, .inl a_sets)), (q 54, .inl (E.2.1 0, 7, .inl a_bestGiven)), (q 53, .inl (E.2.1 0, 7, .inl a_given))] := hD
          refine lv_iinc (v := 3) (lv' := [(4, .int 3), (0, .ref h0), (2, .int n_178), (3, .int x_176)]) hx hb dX12_give_96 hl (k := 3) rfl (by decide) (by decide) rfl (fun ls hl => ?_)
          refine lv_goto (tgt := 15) hx hb dX12_give_99 (by decide) ?_
          refine lv_iload hx hb dX12_give_15 (lv_at hl 0 rfl) ?_
          refine lv_iconst (v := 4) hx hb dX12_give_17 (by decide) ?_
          refine lv_icmp_ge (tgt := 102) hx hb dX12_give_18 (by decide) (fun c9 => absurd c9 (by decide)) (fun _ => ?_)
          refine lv_aload_n hx hb dX12_give_21 rfl (lv_at hl 1 rfl) ?_
          refine va_get (D := E.1) (ci := 12) (v := .ref (q 51)) (C := RX12) (T := TX12) (N := 59) hx hb hts inX12 hown hK hP 0 rfl rfl 51 (by decide) fl130 (fun _ h9 => h9) rfl dX12_give_22 ?_
          refine lv_sipush (v := 128) hx hb dX12_give_25 (by decide) ?_
          refine lv_iload hx hb dX12_give_28 (lv_at hl 0 rfl) ?_
          refine lv_imul hx hb dX12_give_30 ?_
          refine lv_topi (fun x_179 ex_179 => ?_)
          obtain rfl : x_179 = 384 := ex_179.trans (by decide +kernel)
          refine lv_aload_n hx hb dX12_give_31 rfl (lv_at hl 1 rfl) ?_
          refine va_get (D := E.1) (ci := 12) (v := .ref (q 55)) (C := RX12) (T := TX12) (N := 59) hx hb hts inX12 hown hK hP 0 rfl rfl 55 (by decide) fl142 (fun _ h9 => h9) rfl dX12_give_32 ?_
          refine lv_iload hx hb dX12_give_35 (lv_at hl 0 rfl) ?_
          refine va_iald hx hb hK hP 2 0 rfl rfl (show vp_in 3 4 from by unfold vp_in; decide) dX12_give_37 ?_
          refine lv_topi (fun x_180 ex_180 => ?_)
          have hv_181 : inR x_180 0 127 = true := by rw [ex_180]; exact hI_sets _ (vin_cl (show vp_in 3 4 from by unfold vp_in; decide))
          obtain ⟨w_182, hw_183, ew_184⟩ := inR_nI (n := 127) (by decide) hv_181
          subst ew_184
          refine lv_iadd hx hb dX12_give_38 ?_
          refine lv_topi (fun x_185 ex_185 => ?_)
          obtain rfl : x_185 = nI (384 + w_182) := ex_185.trans (nI_add 384 w_182)
          have hi_186 : vp_in (nI (384 + w_182)) 512 := vp_in_nI (by omega) (by decide)
          refine va_iald hx hb hK hP 1 0 rfl rfl hi_186 dX12_give_39 ?_
          refine lv_topi (fun x_187 ex_187 => ?_)
          refine lv_iconst (v := (-1)) hx hb dX12_give_40 (by decide) ?_
          refine lv_icmp_ne (tgt := 45) hx hb dX12_give_41 (by decide) (fun c_188 => ?_) (fun c_188 => ?_)
          · refine lv_iload_n hx hb dX12_give_45 rfl (lv_at hl 3 rfl) ?_
            refine lv_aload_n hx hb dX12_give_46 rfl (lv_at hl 1 rfl) ?_
            refine va_get (D := E.1) (ci := 12) (v := .ref (q 51)) (C := RX12) (T := TX12) (N := 59) hx hb hts inX12 hown hK hP 0 rfl rfl 51 (by decide) fl130 (fun _ h9 => h9) rfl dX12_give_47 ?_
            refine lv_sipush (v := 128) hx hb dX12_give_50 (by decide) ?_
            refine lv_iload hx hb dX12_give_53 (lv_at hl 0 rfl) ?_
            refine lv_imul hx hb dX12_give_55 ?_
            refine lv_topi (fun x_189 ex_189 => ?_)
            obtain rfl : x_189 = 384 := ex_189.trans (by decide +kernel)
            refine lv_aload_n hx hb dX12_give_56 rfl (lv_at hl 1 rfl) ?_
            refine va_get (D := E.1) (ci := 12) (v := .ref (q 55)) (C := RX12) (T := TX12) (N := 59) hx hb hts inX12 hown hK hP 0 rfl rfl 55 (by decide) fl142 (fun _ h9 => h9) rfl dX12_give_57 ?_
            refine lv_iload hx hb dX12_give_60 (lv_at hl 0 rfl) ?_
            refine va_iald hx hb hK hP 2 0 rfl rfl (show vp_in 3 4 from by unfold vp_in; decide) dX12_give_62 ?_
            refine lv_topi (fun x_190 ex_190 => ?_)
            obtain rfl : x_190 = nI w_182 := ex_190.trans ex_180.symm
            refine lv_iadd hx hb dX12_give_63 ?_
            refine lv_topi (fun x_191 ex_191 => ?_)
            obtain rfl : x_191 = nI (384 + w_182) := ex_191.trans (nI_add 384 w_182)
            refine va_iald hx hb hK hP 1 0 rfl rfl hi_186 dX12_give_64 ?_
            refine lv_topi (fun x_192 ex_192 => ?_)
            refine lv_iadd hx hb dX12_give_65 ?_
            refine lv_topi (fun x_193 ex_193 => ?_)
            refine lv_istore_n (lv' := [(3, .int x_193), (4, .int 3), (0, .ref h0), (2, .int n_178)]) hx hb dX12_give_66 rfl hl (by decide) rfl (fun ls hl => ?_)
            refine lv_aload_n hx hb dX12_give_67 rfl (lv_at hl 2 rfl) ?_
            refine va_get (D := E.1) (ci := 12) (v := .ref (q 55)) (C := RX12) (T := TX12) (N := 59) hx hb hts inX12 hown hK hP 0 rfl rfl 55 (by decide) fl142 (fun _ h9 => h9) rfl dX12_give_68 ?_
            refine lv_iload hx hb dX12_give_71 (lv_at hl 1 rfl) ?_
            refine va_iald hx hb hK hP 2 0 rfl rfl (show vp_in 3 4 from by unfold vp_in; decide) dX12_give_73 ?_
            refine lv_topi (fun x_194 ex_194 => ?_)
            obtain rfl : x_194 = nI w_182 := ex_194.trans ex_180.symm
            refine lv_istore (lv' := [(5, .int (nI w_182)), (3, .int x_193), (4, .int 3), (0, .ref h0), (2, .int n_178)]) hx hb dX12_give_74 hl (by decide) rfl (fun ls hl => ?_)
            have hPl := hP.sub (ws' := [(h0, .inr (12, mG q i_taped i_size i_sort i_what i_at i_end i_worth i_faultKind i_faultPlace i_got i_worked (nI dl) i_isPlanned i_bestDone i_bestCost)), (q 51, .inl (E.2.1 0, 512, .inl a_least)), (q 55, .inl (E.2.1 0, 4, .inl a_sets)), (q 54, .inl (E.2.1 0, 7, .inl a_bestGiven)), (q 53, .inl (E.2.1 0, 7, .inl a_given))]) [0, 1, 2, 3, 4] rfl
            have hDl := hD.sub (ws' := [(h0, .inr (12, mG q i_taped i_size i_sort i_what i_at i_end i_worth i_faultKind i_faultPlace i_got i_worked (nI dl) i_isPlanned i_bestDone i_bestCost)), (q 51, .inl (E.2.1 0, 512, .inl a_least)), (q 55, .inl (E.2.1 0, 4, .inl a_sets)), (q 54, .inl (E.2.1 0, 7, .inl a_bestGiven)), (q 53, .inl (E.2.1 0, 7, .inl a_given))]) [0, 1, 2, 3, 4] (by decide) rfl
            refine lm_bits E h0 q i_taped i_size i_sort i_what i_at i_end i_worth i_faultKind i_faultPlace i_got i_worked i_isPlanned i_bestDone i_bestCost dl x_193 3 ([(q 51, .inl (E.2.1 0, 512, .inl a_least)), (q 55, .inl (E.2.1 0, 4, .inl a_sets)), (q 54, .inl (E.2.1 0, 7, .inl a_bestGiven)), (q 53, .inl (E.2.1 0, 7, .inl a_given))]) hx hb hml hown hts hkn hst hA  (fun n_195 H locs ls  hP hD hS hl => ?_) (w_182 + 1) w_182 n_178 _ _ _ (Nat.lt_succ_self _) hPl hDl hS (lv_sub hl [3, 4, 1, 2, 0] rfl)
            have hP : va_P E.1 vwCl [(h0, .inr (12, mG q i_taped i_size i_sort i_what i_at i_end i_worth i_faultKind i_faultPlace i_got i_worked (nI dl) i_isPlanned i_bestDone i_bestCost)), (q 51, .inl (E.2.1 0, 512, .inl a_least)), (q 55, .inl (E.2.1 0, 4, .inl a_sets)), (q 54, .inl (E.2.1 0, 7, .inl a_bestGiven)), (q 53, .inl (E.2.1 0, 7, .inl a_given))] H := hP
            have hD : va_D A [(h0, .inr (12, mG q i_taped i_size i_sort i_what i_at i_end i_worth i_faultKind i_faultPlace i_got i_worked (nI dl) i_isPlanned i_bestDone i_bestCost)), (q 51, .inl (E.2.1 0, 512, .inl a_least)), (q 55, .inl (E.2.1 0, 4, .inl a_sets)), (q 54, .inl (E.2.1 0, 7, .inl a_bestGiven)), (q 53, .inl (E.2.1 0, 7, .inl a_given))] := hD
            refine lv_iinc (v := 4) (lv' := [(4, .int 4), (0, .ref h0), (2, .int n_195), (3, .int x_193)]) hx hb dX12_give_96 hl (k := 3) rfl (by decide) (by decide) rfl (fun ls hl => ?_)
            refine lv_goto (tgt := 15) hx hb dX12_give_99 (by decide) ?_
            refine lv_iload hx hb dX12_give_15 (lv_at hl 0 rfl) ?_
            refine lv_iconst (v := 4) hx hb dX12_give_17 (by decide) ?_
            refine lv_icmp_ge (tgt := 102) hx hb dX12_give_18 (by decide) (fun _ => ?_) (fun c9 => absurd c9 (by decide))
            refine lv_iload_n hx hb dX12_give_102 rfl (lv_at hl 2 rfl) ?_
            refine lv_aload_n hx hb dX12_give_103 rfl (lv_at hl 1 rfl) ?_
            refine va_get (D := E.1) (ci := 12) (v := .int i_bestDone) (C := RX12) (T := TX12) (N := 59) hx hb hts inX12 hown hK hP 0 rfl rfl 57 (by decide) fl300 (fun _ h9 => h9) rfl dX12_give_104 ?_
            refine lv_icmp_lt (tgt := 126) hx hb dX12_give_107 (by decide) (fun c_196 => ?_) (fun c_196 => ?_)
            · have hP9 := hP.sub (ws' := [(h0, .inr (12, mG q i_taped i_size i_sort i_what i_at i_end i_worth i_faultKind i_faultPlace i_got i_worked (nI dl) i_isPlanned i_bestDone i_bestCost)), (q 51, .inl (E.2.1 0, 512, .inl a_least)), (q 55, .inl (E.2.1 0, 4, .inl a_sets)), (q 54, .inl (E.2.1 0, 7, .inl a_bestGiven)), (q 53, .inl (E.2.1 0, 7, .inl a_given))]) [0, 1, 2, 3, 4] rfl
              have hD9 := hD.sub (ws' := [(h0, .inr (12, mG q i_taped i_size i_sort i_what i_at i_end i_worth i_faultKind i_faultPlace i_got i_worked (nI dl) i_isPlanned i_bestDone i_bestCost)), (q 51, .inl (E.2.1 0, 512, .inl a_least)), (q 55, .inl (E.2.1 0, 4, .inl a_sets)), (q 54, .inl (E.2.1 0, 7, .inl a_bestGiven)), (q 53, .inl (E.2.1 0, 7, .inl a_given))]) [0, 1, 2, 3, 4] (by decide) rfl
              exact W.vret hx hb hr (fun t ht hW => ⟨⟨(i_bestDone, i_bestCost, a_sets, a_bestGiven, a_given), rfl, trivial, hI_sets, by rw [ht]; exact hP9, hD9⟩, hS.F ht⟩) hS.2.2 dX12_give_126
            · refine lv_iload_n hx hb dX12_give_110 rfl (lv_at hl 2 rfl) ?_
              refine lv_aload_n hx hb dX12_give_111 rfl (lv_at hl 1 rfl) ?_
              refine va_get (D := E.1) (ci := 12) (v := .int i_bestDone) (C := RX12) (T := TX12) (N := 59) hx hb hts inX12 hown hK hP 0 rfl rfl 57 (by decide) fl300 (fun _ h9 => h9) rfl dX12_give_112 ?_
              refine lv_icmp_ne (tgt := 127) hx hb dX12_give_115 (by decide) (fun c_197 => ?_) (fun c_197 => ?_)
              · refine lv_aload_n hx hb dX12_give_127 rfl (lv_at hl 1 rfl) ?_
                refine lv_iload_n hx hb dX12_give_128 rfl (lv_at hl 2 rfl) ?_
                refine va_put (D := E.1) (ci := 12) (v := .int n_195) (ty := .int) (C := RX12) (T := TX12) (N := 59) hx hb hts inX12 tyX12 tyX12_ok nmX12 hown hK hP hD hS 0 rfl rfl 57 (by decide) fl300 (fun _ h9 => h9) rfl (by decide +kernel) rfl rfl (Nat.le_of_ble_eq_true rfl) dX12_give_129 (fun H locs hP hD hS => ?_)
                have hP : va_P E.1 vwCl [(h0, .inr (12, mG q i_taped i_size i_sort i_what i_at i_end i_worth i_faultKind i_faultPlace i_got i_worked (nI dl) i_isPlanned n_195 i_bestCost)), (q 51, .inl (E.2.1 0, 512, .inl a_least)), (q 55, .inl (E.2.1 0, 4, .inl a_sets)), (q 54, .inl (E.2.1 0, 7, .inl a_bestGiven)), (q 53, .inl (E.2.1 0, 7, .inl a_given))] H := hP
                have hD : va_D A [(h0, .inr (12, mG q i_taped i_size i_sort i_what i_at i_end i_worth i_faultKind i_faultPlace i_got i_worked (nI dl) i_isPlanned n_195 i_bestCost)), (q 51, .inl (E.2.1 0, 512, .inl a_least)), (q 55, .inl (E.2.1 0, 4, .inl a_sets)), (q 54, .inl (E.2.1 0, 7, .inl a_bestGiven)), (q 53, .inl (E.2.1 0, 7, .inl a_given))] := hD
                refine lv_aload_n hx hb dX12_give_132 rfl (lv_at hl 1 rfl) ?_
                refine lv_iload_n hx hb dX12_give_133 rfl (lv_at hl 3 rfl) ?_
                refine va_put (D := E.1) (ci := 12) (v := .int x_193) (ty := .int) (C := RX12) (T := TX12) (N := 59) hx hb hts inX12 tyX12 tyX12_ok nmX12 hown hK hP hD hS 0 rfl rfl 58 (by decide) fl303 (fun _ h9 => h9) rfl (by decide +kernel) rfl rfl (Nat.le_of_ble_eq_true rfl) dX12_give_134 (fun H locs hP hD hS => ?_)
                have hP : va_P E.1 vwCl [(h0, .inr (12, mG q i_taped i_size i_sort i_what i_at i_end i_worth i_faultKind i_faultPlace i_got i_worked (nI dl) i_isPlanned n_195 x_193)), (q 51, .inl (E.2.1 0, 512, .inl a_least)), (q 55, .inl (E.2.1 0, 4, .inl a_sets)), (q 54, .inl (E.2.1 0, 7, .inl a_bestGiven)), (q 53, .inl (E.2.1 0, 7, .inl a_given))] H := hP
                have hD : va_D A [(h0, .inr (12, mG q i_taped i_size i_sort i_what i_at i_end i_worth i_faultKind i_faultPlace i_got i_worked (nI dl) i_isPlanned n_195 x_193)), (q 51, .inl (E.2.1 0, 512, .inl a_least)), (q 55, .inl (E.2.1 0, 4, .inl a_sets)), (q 54, .inl (E.2.1 0, 7, .inl a_bestGiven)), (q 53, .inl (E.2.1 0, 7, .inl a_given))] := hD
                refine lv_iconst (v := 0) hx hb dX12_give_137 (by decide) ?_
                refine lv_istore (lv' := [(4, .int 0), (0, .ref h0), (2, .int n_195), (3, .int x_193)]) hx hb dX12_give_138 hl (by decide) rfl (fun ls hl => ?_)
                have hPl := hP.sub (ws' := [(h0, .inr (12, mG q i_taped i_size i_sort i_what i_at i_end i_worth i_faultKind i_faultPlace i_got i_worked (nI dl) i_isPlanned n_195 x_193)), (q 53, .inl (E.2.1 0, 7, .inl a_given)), (q 54, .inl (E.2.1 0, 7, .inl a_bestGiven)), (q 51, .inl (E.2.1 0, 512, .inl a_least)), (q 55, .inl (E.2.1 0, 4, .inl a_sets))]) [0, 4, 3, 1, 2] rfl
                have hDl := hD.sub (ws' := [(h0, .inr (12, mG q i_taped i_size i_sort i_what i_at i_end i_worth i_faultKind i_faultPlace i_got i_worked (nI dl) i_isPlanned n_195 x_193)), (q 53, .inl (E.2.1 0, 7, .inl a_given)), (q 54, .inl (E.2.1 0, 7, .inl a_bestGiven)), (q 51, .inl (E.2.1 0, 512, .inl a_least)), (q 55, .inl (E.2.1 0, 4, .inl a_sets))]) [0, 4, 3, 1, 2] (by decide) rfl
                refine lm_copy E h0 q i_taped i_size i_sort i_what i_at i_end i_worth i_faultKind i_faultPlace i_got i_worked i_isPlanned n_195 x_193 dl a_given ([(q 51, .inl (E.2.1 0, 512, .inl a_least)), (q 55, .inl (E.2.1 0, 4, .inl a_sets))]) hx hb hml hown hts hkn hst hA (by omega) (fun n_198 H locs ls  hP hD hS hl => ?_) 9 0 a_bestGiven _ _ _ (by omega) (by omega) hPl hDl hS (lv_sub hl [1, 0] rfl)
                have hP : va_P E.1 vwCl [(h0, .inr (12, mG q i_taped i_size i_sort i_what i_at i_end i_worth i_faultKind i_faultPlace i_got i_worked (nI dl) i_isPlanned n_195 x_193)), (q 53, .inl (E.2.1 0, 7, .inl a_given)), (q 54, .inl (E.2.1 0, 7, .inl n_198)), (q 51, .inl (E.2.1 0, 512, .inl a_least)), (q 55, .inl (E.2.1 0, 4, .inl a_sets))] H := hP
                have hD : va_D A [(h0, .inr (12, mG q i_taped i_size i_sort i_what i_at i_end i_worth i_faultKind i_faultPlace i_got i_worked (nI dl) i_isPlanned n_195 x_193)), (q 53, .inl (E.2.1 0, 7, .inl a_given)), (q 54, .inl (E.2.1 0, 7, .inl n_198)), (q 51, .inl (E.2.1 0, 512, .inl a_least)), (q 55, .inl (E.2.1 0, 4, .inl a_sets))] := hD
                have hP9 := hP.sub (ws' := [(h0, .inr (12, mG q i_taped i_size i_sort i_what i_at i_end i_worth i_faultKind i_faultPlace i_got i_worked (nI dl) i_isPlanned n_195 x_193)), (q 51, .inl (E.2.1 0, 512, .inl a_least)), (q 55, .inl (E.2.1 0, 4, .inl a_sets)), (q 54, .inl (E.2.1 0, 7, .inl n_198)), (q 53, .inl (E.2.1 0, 7, .inl a_given))]) [0, 3, 4, 2, 1] rfl
                have hD9 := hD.sub (ws' := [(h0, .inr (12, mG q i_taped i_size i_sort i_what i_at i_end i_worth i_faultKind i_faultPlace i_got i_worked (nI dl) i_isPlanned n_195 x_193)), (q 51, .inl (E.2.1 0, 512, .inl a_least)), (q 55, .inl (E.2.1 0, 4, .inl a_sets)), (q 54, .inl (E.2.1 0, 7, .inl n_198)), (q 53, .inl (E.2.1 0, 7, .inl a_given))]) [0, 3, 4, 2, 1] (by decide) rfl
                exact W.vret hx hb hr (fun t ht hW => ⟨⟨(n_195, x_193, a_sets, n_198, a_given), rfl, trivial, hI_sets, by rw [ht]; exact hP9, hD9⟩, hS.F ht⟩) hS.2.2 dX12_give_169
              · refine lv_iload_n hx hb dX12_give_118 rfl (lv_at hl 3 rfl) ?_
                refine lv_aload_n hx hb dX12_give_119 rfl (lv_at hl 1 rfl) ?_
                refine va_get (D := E.1) (ci := 12) (v := .int i_bestCost) (C := RX12) (T := TX12) (N := 59) hx hb hts inX12 hown hK hP 0 rfl rfl 58 (by decide) fl303 (fun _ h9 => h9) rfl dX12_give_120 ?_
                refine lv_icmp_lt (tgt := 127) hx hb dX12_give_123 (by decide) (fun c_199 => ?_) (fun c_199 => ?_)
                · refine lv_aload_n hx hb dX12_give_127 rfl (lv_at hl 1 rfl) ?_
                  refine lv_iload_n hx hb dX12_give_128 rfl (lv_at hl 2 rfl) ?_
                  refine va_put (D := E.1) (ci := 12) (v := .int n_195) (ty := .int) (C := RX12) (T := TX12) (N := 59) hx hb hts inX12 tyX12 tyX12_ok nmX12 hown hK hP hD hS 0 rfl rfl 57 (by decide) fl300 (fun _ h9 => h9) rfl (by decide +kernel) rfl rfl (Nat.le_of_ble_eq_true rfl) dX12_give_129 (fun H locs hP hD hS => ?_)
                  have hP : va_P E.1 vwCl [(h0, .inr (12, mG q i_taped i_size i_sort i_what i_at i_end i_worth i_faultKind i_faultPlace i_got i_worked (nI dl) i_isPlanned n_195 i_bestCost)), (q 51, .inl (E.2.1 0, 512, .inl a_least)), (q 55, .inl (E.2.1 0, 4, .inl a_sets)), (q 54, .inl (E.2.1 0, 7, .inl a_bestGiven)), (q 53, .inl (E.2.1 0, 7, .inl a_given))] H := hP
                  have hD : va_D A [(h0, .inr (12, mG q i_taped i_size i_sort i_what i_at i_end i_worth i_faultKind i_faultPlace i_got i_worked (nI dl) i_isPlanned n_195 i_bestCost)), (q 51, .inl (E.2.1 0, 512, .inl a_least)), (q 55, .inl (E.2.1 0, 4, .inl a_sets)), (q 54, .inl (E.2.1 0, 7, .inl a_bestGiven)), (q 53, .inl (E.2.1 0, 7, .inl a_given))] := hD
                  refine lv_aload_n hx hb dX12_give_132 rfl (lv_at hl 1 rfl) ?_
                  refine lv_iload_n hx hb dX12_give_133 rfl (lv_at hl 3 rfl) ?_
                  refine va_put (D := E.1) (ci := 12) (v := .int x_193) (ty := .int) (C := RX12) (T := TX12) (N := 59) hx hb hts inX12 tyX12 tyX12_ok nmX12 hown hK hP hD hS 0 rfl rfl 58 (by decide) fl303 (fun _ h9 => h9) rfl (by decide +kernel) rfl rfl (Nat.le_of_ble_eq_true rfl) dX12_give_134 (fun H locs hP hD hS => ?_)
                  have hP : va_P E.1 vwCl [(h0, .inr (12, mG q i_taped i_size i_sort i_what i_at i_end i_worth i_faultKind i_faultPlace i_got i_worked (nI dl) i_isPlanned n_195 x_193)), (q 51, .inl (E.2.1 0, 512, .inl a_least)), (q 55, .inl (E.2.1 0, 4, .inl a_sets)), (q 54, .inl (E.2.1 0, 7, .inl a_bestGiven)), (q 53, .inl (E.2.1 0, 7, .inl a_given))] H := hP
                  have hD : va_D A [(h0, .inr (12, mG q i_taped i_size i_sort i_what i_at i_end i_worth i_faultKind i_faultPlace i_got i_worked (nI dl) i_isPlanned n_195 x_193)), (q 51, .inl (E.2.1 0, 512, .inl a_least)), (q 55, .inl (E.2.1 0, 4, .inl a_sets)), (q 54, .inl (E.2.1 0, 7, .inl a_bestGiven)), (q 53, .inl (E.2.1 0, 7, .inl a_given))] := hD
                  refine lv_iconst (v := 0) hx hb dX12_give_137 (by decide) ?_
                  refine lv_istore (lv' := [(4, .int 0), (0, .ref h0), (2, .int n_195), (3, .int x_193)]) hx hb dX12_give_138 hl (by decide) rfl (fun ls hl => ?_)
                  have hPl := hP.sub (ws' := [(h0, .inr (12, mG q i_taped i_size i_sort i_what i_at i_end i_worth i_faultKind i_faultPlace i_got i_worked (nI dl) i_isPlanned n_195 x_193)), (q 53, .inl (E.2.1 0, 7, .inl a_given)), (q 54, .inl (E.2.1 0, 7, .inl a_bestGiven)), (q 51, .inl (E.2.1 0, 512, .inl a_least)), (q 55, .inl (E.2.1 0, 4, .inl a_sets))]) [0, 4, 3, 1, 2] rfl
                  have hDl := hD.sub (ws' := [(h0, .inr (12, mG q i_taped i_size i_sort i_what i_at i_end i_worth i_faultKind i_faultPlace i_got i_worked (nI dl) i_isPlanned n_195 x_193)), (q 53, .inl (E.2.1 0, 7, .inl a_given)), (q 54, .inl (E.2.1 0, 7, .inl a_bestGiven)), (q 51, .inl (E.2.1 0, 512, .inl a_least)), (q 55, .inl (E.2.1 0, 4, .inl a_sets))]) [0, 4, 3, 1, 2] (by decide) rfl
                  refine lm_copy E h0 q i_taped i_size i_sort i_what i_at i_end i_worth i_faultKind i_faultPlace i_got i_worked i_isPlanned n_195 x_193 dl a_given ([(q 51, .inl (E.2.1 0, 512, .inl a_least)), (q 55, .inl (E.2.1 0, 4, .inl a_sets))]) hx hb hml hown hts hkn hst hA (by omega) (fun n_200 H locs ls  hP hD hS hl => ?_) 9 0 a_bestGiven _ _ _ (by omega) (by omega) hPl hDl hS (lv_sub hl [1, 0] rfl)
                  have hP : va_P E.1 vwCl [(h0, .inr (12, mG q i_taped i_size i_sort i_what i_at i_end i_worth i_faultKind i_faultPlace i_got i_worked (nI dl) i_isPlanned n_195 x_193)), (q 53, .inl (E.2.1 0, 7, .inl a_given)), (q 54, .inl (E.2.1 0, 7, .inl n_200)), (q 51, .inl (E.2.1 0, 512, .inl a_least)), (q 55, .inl (E.2.1 0, 4, .inl a_sets))] H := hP
                  have hD : va_D A [(h0, .inr (12, mG q i_taped i_size i_sort i_what i_at i_end i_worth i_faultKind i_faultPlace i_got i_worked (nI dl) i_isPlanned n_195 x_193)), (q 53, .inl (E.2.1 0, 7, .inl a_given)), (q 54, .inl (E.2.1 0, 7, .inl n_200)), (q 51, .inl (E.2.1 0, 512, .inl a_least)), (q 55, .inl (E.2.1 0, 4, .inl a_sets))] := hD
                  have hP9 := hP.sub (ws' := [(h0, .inr (12, mG q i_taped i_size i_sort i_what i_at i_end i_worth i_faultKind i_faultPlace i_got i_worked (nI dl) i_isPlanned n_195 x_193)), (q 51, .inl (E.2.1 0, 512, .inl a_least)), (q 55, .inl (E.2.1 0, 4, .inl a_sets)), (q 54, .inl (E.2.1 0, 7, .inl n_200)), (q 53, .inl (E.2.1 0, 7, .inl a_given))]) [0, 3, 4, 2, 1] rfl
                  have hD9 := hD.sub (ws' := [(h0, .inr (12, mG q i_taped i_size i_sort i_what i_at i_end i_worth i_faultKind i_faultPlace i_got i_worked (nI dl) i_isPlanned n_195 x_193)), (q 51, .inl (E.2.1 0, 512, .inl a_least)), (q 55, .inl (E.2.1 0, 4, .inl a_sets)), (q 54, .inl (E.2.1 0, 7, .inl n_200)), (q 53, .inl (E.2.1 0, 7, .inl a_given))]) [0, 3, 4, 2, 1] (by decide) rfl
                  exact W.vret hx hb hr (fun t ht hW => ⟨⟨(n_195, x_193, a_sets, n_200, a_given), rfl, trivial, hI_sets, by rw [ht]; exact hP9, hD9⟩, hS.F ht⟩) hS.2.2 dX12_give_169
                · have hP9 := hP.sub (ws' := [(h0, .inr (12, mG q i_taped i_size i_sort i_what i_at i_end i_worth i_faultKind i_faultPlace i_got i_worked (nI dl) i_isPlanned i_bestDone i_bestCost)), (q 51, .inl (E.2.1 0, 512, .inl a_least)), (q 55, .inl (E.2.1 0, 4, .inl a_sets)), (q 54, .inl (E.2.1 0, 7, .inl a_bestGiven)), (q 53, .inl (E.2.1 0, 7, .inl a_given))]) [0, 1, 2, 3, 4] rfl
                  have hD9 := hD.sub (ws' := [(h0, .inr (12, mG q i_taped i_size i_sort i_what i_at i_end i_worth i_faultKind i_faultPlace i_got i_worked (nI dl) i_isPlanned i_bestDone i_bestCost)), (q 51, .inl (E.2.1 0, 512, .inl a_least)), (q 55, .inl (E.2.1 0, 4, .inl a_sets)), (q 54, .inl (E.2.1 0, 7, .inl a_bestGiven)), (q 53, .inl (E.2.1 0, 7, .inl a_given))]) [0, 1, 2, 3, 4] (by decide) rfl
                  exact W.vret hx hb hr (fun t ht hW => ⟨⟨(i_bestDone, i_bestCost, a_sets, a_bestGiven, a_given), rfl, trivial, hI_sets, by rw [ht]; exact hP9, hD9⟩, hS.F ht⟩) hS.2.2 dX12_give_126
          · have hP9 := hP.sub (ws' := [(h0, .inr (12, mG q i_taped i_size i_sort i_what i_at i_end i_worth i_faultKind i_faultPlace i_got i_worked (nI dl) i_isPlanned i_bestDone i_bestCost)), (q 51, .inl (E.2.1 0, 512, .inl a_least)), (q 55, .inl (E.2.1 0, 4, .inl a_sets)), (q 54, .inl (E.2.1 0, 7, .inl a_bestGiven)), (q 53, .inl (E.2.1 0, 7, .inl a_given))]) [0, 1, 2, 3, 4] rfl
            have hD9 := hD.sub (ws' := [(h0, .inr (12, mG q i_taped i_size i_sort i_what i_at i_end i_worth i_faultKind i_faultPlace i_got i_worked (nI dl) i_isPlanned i_bestDone i_bestCost)), (q 51, .inl (E.2.1 0, 512, .inl a_least)), (q 55, .inl (E.2.1 0, 4, .inl a_sets)), (q 54, .inl (E.2.1 0, 7, .inl a_bestGiven)), (q 53, .inl (E.2.1 0, 7, .inl a_given))]) [0, 1, 2, 3, 4] (by decide) rfl
            exact W.vret hx hb hr (fun t ht hW => ⟨⟨(i_bestDone, i_bestCost, a_sets, a_bestGiven, a_given), rfl, trivial, hI_sets, by rw [ht]; exact hP9, hD9⟩, hS.F ht⟩) hS.2.2 dX12_give_44
        · have hP9 := hP.sub (ws' := [(h0, .inr (12, mG q i_taped i_size i_sort i_what i_at i_end i_worth i_faultKind i_faultPlace i_got i_worked (nI dl) i_isPlanned i_bestDone i_bestCost)), (q 51, .inl (E.2.1 0, 512, .inl a_least)), (q 55, .inl (E.2.1 0, 4, .inl a_sets)), (q 54, .inl (E.2.1 0, 7, .inl a_bestGiven)), (q 53, .inl (E.2.1 0, 7, .inl a_given))]) [0, 1, 2, 3, 4] rfl
          have hD9 := hD.sub (ws' := [(h0, .inr (12, mG q i_taped i_size i_sort i_what i_at i_end i_worth i_faultKind i_faultPlace i_got i_worked (nI dl) i_isPlanned i_bestDone i_bestCost)), (q 51, .inl (E.2.1 0, 512, .inl a_least)), (q 55, .inl (E.2.1 0, 4, .inl a_sets)), (q 54, .inl (E.2.1 0, 7, .inl a_bestGiven)), (q 53, .inl (E.2.1 0, 7, .inl a_given))]) [0, 1, 2, 3, 4] (by decide) rfl
          exact W.vret hx hb hr (fun t ht hW => ⟨⟨(i_bestDone, i_bestCost, a_sets, a_bestGiven, a_given), rfl, trivial, hI_sets, by rw [ht]; exact hP9, hD9⟩, hS.F ht⟩) hS.2.2 dX12_give_44
      · have hP9 := hP.sub (ws' := [(h0, .inr (12, mG q i_taped i_size i_sort i_what i_at i_end i_worth i_faultKind i_faultPlace i_got i_worked (nI dl) i_isPlanned i_bestDone i_bestCost)), (q 51, .inl (E.2.1 0, 512, .inl a_least)), (q 55, .inl (E.2.1 0, 4, .inl a_sets)), (q 54, .inl (E.2.1 0, 7, .inl a_bestGiven)), (q 53, .inl (E.2.1 0, 7, .inl a_given))]) [0, 1, 2, 3, 4] rfl
        have hD9 := hD.sub (ws' := [(h0, .inr (12, mG q i_taped i_size i_sort i_what i_at i_end i_worth i_faultKind i_faultPlace i_got i_worked (nI dl) i_isPlanned i_bestDone i_bestCost)), (q 51, .inl (E.2.1 0, 512, .inl a_least)), (q 55, .inl (E.2.1 0, 4, .inl a_sets)), (q 54, .inl (E.2.1 0, 7, .inl a_bestGiven)), (q 53, .inl (E.2.1 0, 7, .inl a_given))]) [0, 1, 2, 3, 4] (by decide) rfl
        exact W.vret hx hb hr (fun t ht hW => ⟨⟨(i_bestDone, i_bestCost, a_sets, a_bestGiven, a_given), rfl, trivial, hI_sets, by rw [ht]; exact hP9, hD9⟩, hS.F ht⟩) hS.2.2 dX12_give_44
    · have hP9 := hP.sub (ws' := [(h0, .inr (12, mG q i_taped i_size i_sort i_what i_at i_end i_worth i_faultKind i_faultPlace i_got i_worked (nI dl) i_isPlanned i_bestDone i_bestCost)), (q 51, .inl (E.2.1 0, 512, .inl a_least)), (q 55, .inl (E.2.1 0, 4, .inl a_sets)), (q 54, .inl (E.2.1 0, 7, .inl a_bestGiven)), (q 53, .inl (E.2.1 0, 7, .inl a_given))]) [0, 1, 2, 3, 4] rfl
      have hD9 := hD.sub (ws' := [(h0, .inr (12, mG q i_taped i_size i_sort i_what i_at i_end i_worth i_faultKind i_faultPlace i_got i_worked (nI dl) i_isPlanned i_bestDone i_bestCost)), (q 51, .inl (E.2.1 0, 512, .inl a_least)), (q 55, .inl (E.2.1 0, 4, .inl a_sets)), (q 54, .inl (E.2.1 0, 7, .inl a_bestGiven)), (q 53, .inl (E.2.1 0, 7, .inl a_given))]) [0, 1, 2, 3, 4] (by decide) rfl
      exact W.vret hx hb hr (fun t ht hW => ⟨⟨(i_bestDone, i_bestCost, a_sets, a_bestGiven, a_given), rfl, trivial, hI_sets, by rw [ht]; exact hP9, hD9⟩, hS.F ht⟩) hS.2.2 dX12_give_44
