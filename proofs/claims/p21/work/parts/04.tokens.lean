set_option maxHeartbeats 4000000 in
set_option maxRecDepth 100000 in
theorem c_X9_byteAt (l : Launch) (E : vE) (h0 : Nat) (by_ : Nat) (le : Int32) (ix : Int32) (f : Nat → Int32) (sz : Nat) : Met l yX9_byteAt wsX9_byteAt ({ frames := 0, cells := 0, slots := 0, locals := 0 }) (pcW E [.ref h0, .int ix] sz [(h0, .inr (9, [.ref by_, .int le])), (by_, .inl (E.2.1 0, 800, .inl f))]) (va_Qi (fun (r : Int32) (_ : Unit) => True) (fun (_ : Unit) (t : State) => wB E (va_A [(h0, .inr (9, [.ref by_, .int le])), (by_, .inl (E.2.1 0, 800, .inl f))] sz) [(h0, .inr (9, [.ref by_, .int le])), (by_, .inl (E.2.1 0, 800, .inl f))] t) (va_A [(h0, .inr (9, [.ref by_, .int le])), (by_, .inl (E.2.1 0, 800, .inl f))] sz)) 0 0 (va_A [(h0, .inr (9, [.ref by_, .int le])), (by_, .inl (E.2.1 0, 800, .inl f))] sz) := by
  refine Met.ofW (cc := cX9_byteAt) (maxL := 2) (ret := (some .int)) (by decide) rfl ?_
  intro p e s m args below meth c s₁ B hml hv
  obtain ⟨rfl, hsz, hP, hkn, hD0, hst⟩ := hv
  have hx := B.exec
  have hb := B.bytes
  have hr := B.returns
  have hts := atoms_spec (ws := wsX9_byteAt) B.pre
  have hown : s.vm.findClass RX9 = some m.cls := findClass_of_methodNamed B.named
  have hlocks := B.notSynchronized
  subst hsz
  have hD := hD0.self (sz := s.heap.size)
  have hK := hkn.1
  have hAO := hkn.2.2.1
  generalize hAe : va_A [(h0, .inr (9, [.ref by_, .int le])), (by_, .inl (E.2.1 0, 800, .inl f))] s.heap.size = A at hD hst ⊢
  have hA : ∀ q : Nat, s.heap.size ≤ q → A q := fun q h => by rw [← hAe]; exact Or.inr h
  have hS : va_S A s.heap s.heap [] := va_S.rf
  have hP : va_P E.1 vwCl [(h0, .inr (9, [.ref by_, .int le])), (by_, .inl (E.2.1 0, 800, .inl f))] s.heap := hP
  have hl := lv_entry ([.ref h0, .int ix]) (n := 2) (Nat.le_of_ble_eq_true rfl)
  rw [lg_entry_eq]
  generalize (lg_sl ([.ref h0, .int ix]) ++ List.replicate (2 - (lg_sl ([.ref h0, .int ix])).length) Slot.unset).toArray = ls at hl ⊢
  have hl : lv_has ls 2 [(0, .ref h0), (1, .int ix)] := hl
  have fl9 := hts (.fieldLink RX9 9 "BoatsHome$Tape" "bytes" "[I") (by first | exact List.mem_of_getElem? (i := 2) rfl | decide +kernel)
  have fl15 := hts (.fieldLink RX9 15 "BoatsHome$Tape" "length" "I") (by first | exact List.mem_of_getElem? (i := 1) rfl | decide +kernel)
  have inX9 : ∀ w ∈ u_ws RX9 TX9 2, w ∈ wsX9_byteAt := by first | exact fun w h9 => (List.mem_cons_of_mem _ (List.mem_append_right _ h9)) | decide +kernel
  refine lv_iload_n hx hb dX9_byteAt_0 rfl (lv_at hl 1 rfl) ?_
  refine lv_if_lt (tgt := 28) hx hb dX9_byteAt_1 (by decide) (fun c_1 => ?_) (fun c_1 => ?_)
  · refine lv_iconst (v := (-1)) hx hb dX9_byteAt_28 (by decide) ?_
    have hP9 := hP.sub (ws' := [(h0, .inr (9, [.ref by_, .int le])), (by_, .inl (E.2.1 0, 800, .inl f))]) [0, 1] rfl
    have hD9 := hD.sub (ws' := [(h0, .inr (9, [.ref by_, .int le])), (by_, .inl (E.2.1 0, 800, .inl f))]) [0, 1] (by decide) rfl
    exact W.iret (v := (-1)) hx hb hr (fun t ht hW => ⟨⟨(-1), (), rfl, trivial, by rw [ht]; exact hP9, hD9⟩, hS.F ht⟩) hS.2.2 dX9_byteAt_29
  · refine lv_iload_n hx hb dX9_byteAt_4 rfl (lv_at hl 1 rfl) ?_
    refine lv_aload_n hx hb dX9_byteAt_5 rfl (lv_at hl 0 rfl) ?_
    refine va_get (D := E.1) (ci := 9) (v := .int le) (C := RX9) (T := TX9) (N := 2) hx hb hts inX9 hown hK hP 0 rfl rfl 1 (by decide) fl15 (fun _ h9 => h9) rfl dX9_byteAt_6 ?_
    refine lv_icmp_ge (tgt := 28) hx hb dX9_byteAt_9 (by decide) (fun c_2 => ?_) (fun c_2 => ?_)
    · refine lv_iconst (v := (-1)) hx hb dX9_byteAt_28 (by decide) ?_
      have hP9 := hP.sub (ws' := [(h0, .inr (9, [.ref by_, .int le])), (by_, .inl (E.2.1 0, 800, .inl f))]) [0, 1] rfl
      have hD9 := hD.sub (ws' := [(h0, .inr (9, [.ref by_, .int le])), (by_, .inl (E.2.1 0, 800, .inl f))]) [0, 1] (by decide) rfl
      exact W.iret (v := (-1)) hx hb hr (fun t ht hW => ⟨⟨(-1), (), rfl, trivial, by rw [ht]; exact hP9, hD9⟩, hS.F ht⟩) hS.2.2 dX9_byteAt_29
    · refine lv_iload_n hx hb dX9_byteAt_12 rfl (lv_at hl 1 rfl) ?_
      refine lv_sipush (v := 800) hx hb dX9_byteAt_13 (by decide) ?_
      refine lv_icmp_ge (tgt := 28) hx hb dX9_byteAt_16 (by decide) (fun c_3 => ?_) (fun c_3 => ?_)
      · refine lv_iconst (v := (-1)) hx hb dX9_byteAt_28 (by decide) ?_
        have hP9 := hP.sub (ws' := [(h0, .inr (9, [.ref by_, .int le])), (by_, .inl (E.2.1 0, 800, .inl f))]) [0, 1] rfl
        have hD9 := hD.sub (ws' := [(h0, .inr (9, [.ref by_, .int le])), (by_, .inl (E.2.1 0, 800, .inl f))]) [0, 1] (by decide) rfl
        exact W.iret (v := (-1)) hx hb hr (fun t ht hW => ⟨⟨(-1), (), rfl, trivial, by rw [ht]; exact hP9, hD9⟩, hS.F ht⟩) hS.2.2 dX9_byteAt_29
      · refine lv_aload_n hx hb dX9_byteAt_19 rfl (lv_at hl 0 rfl) ?_
        refine va_get (D := E.1) (ci := 9) (v := .ref by_) (C := RX9) (T := TX9) (N := 2) hx hb hts inX9 hown hK hP 0 rfl rfl 0 (by decide) fl9 (fun _ h9 => h9) rfl dX9_byteAt_20 ?_
        refine lv_iload_n hx hb dX9_byteAt_23 rfl (lv_at hl 1 rfl) ?_
        have hi_4 : vp_in ix 800 := vin_lt c_1 (h := by decide) c_3
        refine va_iald hx hb hK hP 1 0 rfl rfl hi_4 dX9_byteAt_24 ?_
        refine lv_topi (fun x_5 ex_5 => ?_)
        refine lv_goto (tgt := 29) hx hb dX9_byteAt_25 (by decide) ?_
        have hP9 := hP.sub (ws' := [(h0, .inr (9, [.ref by_, .int le])), (by_, .inl (E.2.1 0, 800, .inl f))]) [0, 1] rfl
        have hD9 := hD.sub (ws' := [(h0, .inr (9, [.ref by_, .int le])), (by_, .inl (E.2.1 0, 800, .inl f))]) [0, 1] (by decide) rfl
        exact W.iret (v := x_5) hx hb hr (fun t ht hW => ⟨⟨x_5, (), rfl, trivial, by rw [ht]; exact hP9, hD9⟩, hS.F ht⟩) hS.2.2 dX9_byteAt_29
set_option maxHeartbeats 4000000 in
set_option maxRecDepth 100000 in
theorem c_X10_isBlank (l : Launch) (E : vE) (x : Int32) (sz : Nat) : Met l yX10_isBlank wsX10_isBlank ({ frames := 0, cells := 0, slots := 0, locals := 0 }) (pcW E [.int x] sz []) (va_Qi (fun (r : Int32) (_ : Unit) => True) (fun (_ : Unit) (t : State) => wB E (va_A [] sz) [] t) (va_A [] sz)) 0 0 (va_A [] sz) := by
  refine Met.ofW (cc := cX10_isBlank) (maxL := 1) (ret := (some .boolean)) (by decide) rfl ?_
  intro p e s m args below meth c s₁ B hml hv
  obtain ⟨rfl, hsz, hP, hkn, hD0, hst⟩ := hv
  have hx := B.exec
  have hb := B.bytes
  have hr := B.returns
  have hts := atoms_spec (ws := wsX10_isBlank) B.pre
  have hown : s.vm.findClass RX10 = some m.cls := findClass_of_methodNamed B.named
  have hlocks := B.notSynchronized
  subst hsz
  have hD := hD0.self (sz := s.heap.size)
  have hK := hkn.1
  have hAO := hkn.2.2.1
  generalize hAe : va_A [] s.heap.size = A at hD hst ⊢
  have hA : ∀ q : Nat, s.heap.size ≤ q → A q := fun q h => by rw [← hAe]; exact Or.inr h
  have hS : va_S A s.heap s.heap [] := va_S.rf
  have hP : va_P E.1 vwCl [] s.heap := hP
  have hl := lv_entry ([.int x]) (n := 1) (Nat.le_of_ble_eq_true rfl)
  rw [lg_entry_eq]
  generalize (lg_sl ([.int x]) ++ List.replicate (1 - (lg_sl ([.int x])).length) Slot.unset).toArray = ls at hl ⊢
  have hl : lv_has ls 1 [(0, .int x)] := hl
  refine lv_iload_n hx hb dX10_isBlank_0 rfl (lv_at hl 0 rfl) ?_
  refine lv_bipush (v := 32) hx hb dX10_isBlank_1 (by decide) ?_
  refine lv_icmp_eq (tgt := 12) hx hb dX10_isBlank_3 (by decide) (fun c_1 => ?_) (fun c_1 => ?_)
  · refine lv_iconst (v := 1) hx hb dX10_isBlank_12 (by decide) ?_
    refine lv_goto (tgt := 17) hx hb dX10_isBlank_13 (by decide) ?_
    have hP9 := hP.sub (ws' := []) [] rfl
    have hD9 := hD.sub (ws' := []) [] (by decide) rfl
    exact W.zret (v := 1) hx hb hr (by decide) (fun t ht hW => ⟨⟨1, (), rfl, trivial, by rw [ht]; exact hP9, hD9⟩, hS.F ht⟩) hS.2.2 dX10_isBlank_17
  · refine lv_iload_n hx hb dX10_isBlank_6 rfl (lv_at hl 0 rfl) ?_
    refine lv_bipush (v := 10) hx hb dX10_isBlank_7 (by decide) ?_
    refine lv_icmp_ne (tgt := 16) hx hb dX10_isBlank_9 (by decide) (fun c_2 => ?_) (fun c_2 => ?_)
    · refine lv_iconst (v := 0) hx hb dX10_isBlank_16 (by decide) ?_
      have hP9 := hP.sub (ws' := []) [] rfl
      have hD9 := hD.sub (ws' := []) [] (by decide) rfl
      exact W.zret (v := 0) hx hb hr (by decide) (fun t ht hW => ⟨⟨0, (), rfl, trivial, by rw [ht]; exact hP9, hD9⟩, hS.F ht⟩) hS.2.2 dX10_isBlank_17
    · refine lv_iconst (v := 1) hx hb dX10_isBlank_12 (by decide) ?_
      refine lv_goto (tgt := 17) hx hb dX10_isBlank_13 (by decide) ?_
      have hP9 := hP.sub (ws' := []) [] rfl
      have hD9 := hD.sub (ws' := []) [] (by decide) rfl
      exact W.zret (v := 1) hx hb hr (by decide) (fun t ht hW => ⟨⟨1, (), rfl, trivial, by rw [ht]; exact hP9, hD9⟩, hS.F ht⟩) hS.2.2 dX10_isBlank_17
set_option maxHeartbeats 4000000 in
set_option maxRecDepth 100000 in
theorem c_X10_isLetter (l : Launch) (E : vE) (x : Int32) (sz : Nat) : Met l yX10_isLetter wsX10_isLetter ({ frames := 0, cells := 0, slots := 0, locals := 0 }) (pcW E [.int x] sz []) (va_Qi (fun (r : Int32) (_ : Unit) => True) (fun (_ : Unit) (t : State) => wB E (va_A [] sz) [] t) (va_A [] sz)) 0 0 (va_A [] sz) := by
  refine Met.ofW (cc := cX10_isLetter) (maxL := 1) (ret := (some .boolean)) (by decide) rfl ?_
  intro p e s m args below meth c s₁ B hml hv
  obtain ⟨rfl, hsz, hP, hkn, hD0, hst⟩ := hv
  have hx := B.exec
  have hb := B.bytes
  have hr := B.returns
  have hts := atoms_spec (ws := wsX10_isLetter) B.pre
  have hown : s.vm.findClass RX10 = some m.cls := findClass_of_methodNamed B.named
  have hlocks := B.notSynchronized
  subst hsz
  have hD := hD0.self (sz := s.heap.size)
  have hK := hkn.1
  have hAO := hkn.2.2.1
  generalize hAe : va_A [] s.heap.size = A at hD hst ⊢
  have hA : ∀ q : Nat, s.heap.size ≤ q → A q := fun q h => by rw [← hAe]; exact Or.inr h
  have hS : va_S A s.heap s.heap [] := va_S.rf
  have hP : va_P E.1 vwCl [] s.heap := hP
  have hl := lv_entry ([.int x]) (n := 1) (Nat.le_of_ble_eq_true rfl)
  rw [lg_entry_eq]
  generalize (lg_sl ([.int x]) ++ List.replicate (1 - (lg_sl ([.int x])).length) Slot.unset).toArray = ls at hl ⊢
  have hl : lv_has ls 1 [(0, .int x)] := hl
  refine lv_iload_n hx hb dX10_isLetter_0 rfl (lv_at hl 0 rfl) ?_
  refine lv_bipush (v := 97) hx hb dX10_isLetter_1 (by decide) ?_
  refine lv_icmp_lt (tgt := 16) hx hb dX10_isLetter_3 (by decide) (fun c_1 => ?_) (fun c_1 => ?_)
  · refine lv_iconst (v := 0) hx hb dX10_isLetter_16 (by decide) ?_
    have hP9 := hP.sub (ws' := []) [] rfl
    have hD9 := hD.sub (ws' := []) [] (by decide) rfl
    exact W.zret (v := 0) hx hb hr (by decide) (fun t ht hW => ⟨⟨0, (), rfl, trivial, by rw [ht]; exact hP9, hD9⟩, hS.F ht⟩) hS.2.2 dX10_isLetter_17
  · refine lv_iload_n hx hb dX10_isLetter_6 rfl (lv_at hl 0 rfl) ?_
    refine lv_bipush (v := 122) hx hb dX10_isLetter_7 (by decide) ?_
    refine lv_icmp_gt (tgt := 16) hx hb dX10_isLetter_9 (by decide) (fun c_2 => ?_) (fun c_2 => ?_)
    · refine lv_iconst (v := 0) hx hb dX10_isLetter_16 (by decide) ?_
      have hP9 := hP.sub (ws' := []) [] rfl
      have hD9 := hD.sub (ws' := []) [] (by decide) rfl
      exact W.zret (v := 0) hx hb hr (by decide) (fun t ht hW => ⟨⟨0, (), rfl, trivial, by rw [ht]; exact hP9, hD9⟩, hS.F ht⟩) hS.2.2 dX10_isLetter_17
    · refine lv_iconst (v := 1) hx hb dX10_isLetter_12 (by decide) ?_
      refine lv_goto (tgt := 17) hx hb dX10_isLetter_13 (by decide) ?_
      have hP9 := hP.sub (ws' := []) [] rfl
      have hD9 := hD.sub (ws' := []) [] (by decide) rfl
      exact W.zret (v := 1) hx hb hr (by decide) (fun t ht hW => ⟨⟨1, (), rfl, trivial, by rw [ht]; exact hP9, hD9⟩, hS.F ht⟩) hS.2.2 dX10_isLetter_17
set_option maxHeartbeats 4000000 in
set_option maxRecDepth 100000 in
theorem c_X10_isDigit (l : Launch) (E : vE) (x : Int32) (sz : Nat) : Met l yX10_isDigit wsX10_isDigit ({ frames := 0, cells := 0, slots := 0, locals := 0 }) (pcW E [.int x] sz []) (va_Qi (fun (r : Int32) (_ : Unit) => True) (fun (_ : Unit) (t : State) => wB E (va_A [] sz) [] t) (va_A [] sz)) 0 0 (va_A [] sz) := by
  refine Met.ofW (cc := cX10_isDigit) (maxL := 1) (ret := (some .boolean)) (by decide) rfl ?_
  intro p e s m args below meth c s₁ B hml hv
  obtain ⟨rfl, hsz, hP, hkn, hD0, hst⟩ := hv
  have hx := B.exec
  have hb := B.bytes
  have hr := B.returns
  have hts := atoms_spec (ws := wsX10_isDigit) B.pre
  have hown : s.vm.findClass RX10 = some m.cls := findClass_of_methodNamed B.named
  have hlocks := B.notSynchronized
  subst hsz
  have hD := hD0.self (sz := s.heap.size)
  have hK := hkn.1
  have hAO := hkn.2.2.1
  generalize hAe : va_A [] s.heap.size = A at hD hst ⊢
  have hA : ∀ q : Nat, s.heap.size ≤ q → A q := fun q h => by rw [← hAe]; exact Or.inr h
  have hS : va_S A s.heap s.heap [] := va_S.rf
  have hP : va_P E.1 vwCl [] s.heap := hP
  have hl := lv_entry ([.int x]) (n := 1) (Nat.le_of_ble_eq_true rfl)
  rw [lg_entry_eq]
  generalize (lg_sl ([.int x]) ++ List.replicate (1 - (lg_sl ([.int x])).length) Slot.unset).toArray = ls at hl ⊢
  have hl : lv_has ls 1 [(0, .int x)] := hl
  refine lv_iload_n hx hb dX10_isDigit_0 rfl (lv_at hl 0 rfl) ?_
  refine lv_bipush (v := 48) hx hb dX10_isDigit_1 (by decide) ?_
  refine lv_icmp_lt (tgt := 16) hx hb dX10_isDigit_3 (by decide) (fun c_1 => ?_) (fun c_1 => ?_)
  · refine lv_iconst (v := 0) hx hb dX10_isDigit_16 (by decide) ?_
    have hP9 := hP.sub (ws' := []) [] rfl
    have hD9 := hD.sub (ws' := []) [] (by decide) rfl
    exact W.zret (v := 0) hx hb hr (by decide) (fun t ht hW => ⟨⟨0, (), rfl, trivial, by rw [ht]; exact hP9, hD9⟩, hS.F ht⟩) hS.2.2 dX10_isDigit_17
  · refine lv_iload_n hx hb dX10_isDigit_6 rfl (lv_at hl 0 rfl) ?_
    refine lv_bipush (v := 57) hx hb dX10_isDigit_7 (by decide) ?_
    refine lv_icmp_gt (tgt := 16) hx hb dX10_isDigit_9 (by decide) (fun c_2 => ?_) (fun c_2 => ?_)
    · refine lv_iconst (v := 0) hx hb dX10_isDigit_16 (by decide) ?_
      have hP9 := hP.sub (ws' := []) [] rfl
      have hD9 := hD.sub (ws' := []) [] (by decide) rfl
      exact W.zret (v := 0) hx hb hr (by decide) (fun t ht hW => ⟨⟨0, (), rfl, trivial, by rw [ht]; exact hP9, hD9⟩, hS.F ht⟩) hS.2.2 dX10_isDigit_17
    · refine lv_iconst (v := 1) hx hb dX10_isDigit_12 (by decide) ?_
      refine lv_goto (tgt := 17) hx hb dX10_isDigit_13 (by decide) ?_
      have hP9 := hP.sub (ws' := []) [] rfl
      have hD9 := hD.sub (ws' := []) [] (by decide) rfl
      exact W.zret (v := 1) hx hb hr (by decide) (fun t ht hW => ⟨⟨1, (), rfl, trivial, by rw [ht]; exact hP9, hD9⟩, hS.F ht⟩) hS.2.2 dX10_isDigit_17
set_option maxHeartbeats 4000000 in
set_option maxRecDepth 100000 in
theorem lg_skip {p : Program} {l : Launch} {e : Env} {s : State} {m : MethodId} {args : Array Value} {below : List Frame} {meth : Method} {c : Code} {Q : State → Prop} {A : Nat → Prop} (E : vE) (h0 : Nat) (tp : Nat) (by_ : Nat) (kd : Int32) (sa : Int32) (nu : Int32) (le : Int32) (f : Nat → Int32) (hx : p.tables.exec = Jvm.exec) (hb : c.code = cX10_skipBlanks) (hml : c.maxLocals = 1) (hown : s.vm.findClass RX10 = some m.cls) (hts : ∀ w ∈ wsX10_skipBlanks, w.before args s = true) (hkn : kn E s) (hst : st E A s s.heap) (hA : ∀ q : Nat, s.heap.size ≤ q → A q) (kk : ∀ (bv : Int32) (H : Heap) (locs : List Loc) (ls : Array Slot), va_P E.1 vwCl [(h0, .inr (10, [.ref tp, .int kd, .int sa, .int nu, .int bv])), (tp, .inr (9, [.ref by_, .int le])), (by_, .inl (E.2.1 0, 800, .inl f))] H → va_D A [(h0, .inr (10, [.ref tp, .int kd, .int sa, .int nu, .int bv])), (tp, .inr (9, [.ref by_, .int le])), (by_, .inl (E.2.1 0, 800, .inl f))] → va_S A s.heap H locs → lv_has ls 1 [(0, .ref h0)] → W p l e ({ frames := 1, cells := 0, slots := 0, locals := 21 }) s m args below meth c H locs 0 0 Q (F0 m 44 ls [])) : ∀ (n0 : Nat) (bv : Int32) (H : Heap) (locs : List Loc) (ls : Array Slot), (le.toInt - bv.toInt).toNat < n0 → va_P E.1 vwCl [(h0, .inr (10, [.ref tp, .int kd, .int sa, .int nu, .int bv])), (tp, .inr (9, [.ref by_, .int le])), (by_, .inl (E.2.1 0, 800, .inl f))] H → va_D A [(h0, .inr (10, [.ref tp, .int kd, .int sa, .int nu, .int bv])), (tp, .inr (9, [.ref by_, .int le])), (by_, .inl (E.2.1 0, 800, .inl f))] → va_S A s.heap H locs → lv_has ls 1 [(0, .ref h0)] → W p l e ({ frames := 1, cells := 0, slots := 0, locals := 21 }) s m args below meth c H locs 0 0 Q (F0 m 0 ls []) := by
  have hK := hkn.1
  have hAO := hkn.2.2.1
  have fl21 := hts (.fieldLink RX10 21 "BoatsHome$Tokens" "behind" "I") (by first | exact List.mem_of_getElem? (i := 1) rfl | decide +kernel)
  have fl24 := hts (.fieldLink RX10 24 "BoatsHome$Tokens" "tape" "LBoatsHome$Tape;") (by first | exact List.mem_of_getElem? (i := 2) rfl | decide +kernel)
  have fl63 := hts (.fieldLink RX10 63 "BoatsHome$Tape" "length" "I") (by first | exact List.mem_of_getElem? (i := 3) rfl | decide +kernel)
  have inX10 : ∀ w ∈ u_ws RX10 TX10 5, w ∈ wsX10_skipBlanks := by first | exact fun w h9 => (List.mem_cons_of_mem _ (List.mem_append_left _ (List.mem_append_right _ h9))) | decide +kernel
  have inX9 : ∀ w ∈ u_ws RX9 TX9 2, w ∈ wsX10_skipBlanks := by first | exact fun w h9 => (List.mem_cons_of_mem _ (List.mem_append_right _ h9)) | decide +kernel
  intro n0
  induction n0 with
  | zero =>
    intro bv H locs ls hn0
    exact absurd hn0 (Nat.not_lt_zero _)
  | succ n0 ih =>
    intro bv H locs ls hn0  hP hD hS hl
    refine lv_aload_n hx hb dX10_skipBlanks_0 rfl (lv_at hl 0 rfl) ?_
    refine va_get (D := E.1) (ci := 10) (v := .int bv) (C := RX10) (T := TX10) (N := 5) hx hb hts inX10 hown hK hP 0 rfl rfl 4 (by decide) fl21 (fun _ h9 => h9) rfl dX10_skipBlanks_1 ?_
    refine lv_aload_n hx hb dX10_skipBlanks_4 rfl (lv_at hl 0 rfl) ?_
    refine va_get (D := E.1) (ci := 10) (v := .ref tp) (C := RX10) (T := TX10) (N := 5) hx hb hts inX10 hown hK hP 0 rfl rfl 0 (by decide) fl24 (fun _ h9 => h9) rfl dX10_skipBlanks_5 ?_
    refine va_get (D := E.1) (ci := 9) (v := .int le) (C := RX9) (T := TX9) (N := 2) hx hb hts inX9 hown hK hP 1 rfl rfl 1 (by decide) fl63 (fun _ h9 => h9) rfl dX10_skipBlanks_8 ?_
    refine lv_icmp_ge (tgt := 44) hx hb dX10_skipBlanks_11 (by decide) (fun c_1 => ?_) (fun c_1 => ?_)
    · exact kk bv _ _ _  (hP.sub [0, 1, 2] rfl) (hD.sub [0, 1, 2] (by decide) rfl) hS (lv_sub hl [0] rfl)
    · refine lv_aload_n hx hb dX10_skipBlanks_14 rfl (lv_at hl 0 rfl) ?_
      refine va_get (D := E.1) (ci := 10) (v := .ref tp) (C := RX10) (T := TX10) (N := 5) hx hb hts inX10 hown hK hP 0 rfl rfl 0 (by decide) fl24 (fun _ h9 => h9) rfl dX10_skipBlanks_15 ?_
      refine lv_aload_n hx hb dX10_skipBlanks_18 rfl (lv_at hl 0 rfl) ?_
      refine va_get (D := E.1) (ci := 10) (v := .int bv) (C := RX10) (T := TX10) (N := 5) hx hb hts inX10 hown hK hP 0 rfl rfl 4 (by decide) fl21 (fun _ h9 => h9) rfl dX10_skipBlanks_19 ?_
      have hPc := hP.sub (ws' := [(tp, .inr (9, [.ref by_, .int le])), (by_, .inl (E.2.1 0, 800, .inl f))]) [1, 2] rfl
      have hDc := hD.sub (ws' := [(tp, .inr (9, [.ref by_, .int le])), (by_, .inl (E.2.1 0, 800, .inl f))]) [1, 2] (by decide) rfl
      have hFc := va_free (wc := [(tp, .inr (9, [.ref by_, .int le])), (by_, .inl (E.2.1 0, 800, .inl f))]) hD hS hA [1, 2] rfl
      refine va_calli (va_runV (As := [.int bv]) (rest := []) ⟨hx, hb, hml, hown, hts⟩ (c_X9_byteAt l E tp by_ le bv f H.size ) (cwV 1 hts gX10_skipBlanks_X9_byteAt rfl rfl rfl hdV_X9_byteAt ⟨Nat.le_of_ble_eq_true rfl, Nat.le_of_ble_eq_true rfl⟩) ⟨pcW_blind, va_recv hK hPc (ci := 9) (q0 := 0) rfl rfl, (pcW_pre hPc hkn hDc hst hS hFc)⟩ rfl rfl hl.1 rfl (lv_room (Nat.le_of_ble_eq_true rfl)) dX10_skipBlanks_22 ⟨Nat.le_of_ble_eq_true rfl, Nat.le_of_ble_eq_true rfl⟩) hS (fun q _ h => hFc q h) hFc (fun r_2 u t H1 locs ht hvm hw_3 hB hz1 hk1 hS => ?_)
      obtain ⟨hP1, hD1⟩ := hB
      rw [ht] at hP1
      try dsimp only at hw_3
      obtain ⟨hP, hD⟩ := va_join (wr := [(h0, .inr (10, [.ref tp, .int kd, .int sa, .int nu, .int bv]))]) (w1 := [(tp, .inr (9, [.ref by_, .int le])), (by_, .inl (E.2.1 0, 800, .inl f))]) hP hD [1, 2] [0] rfl rfl (by decide) (by decide) hk1 hFc hP1 hD1
      generalize H1 = H at hP hS ⊢
      have hP : va_P E.1 vwCl [(h0, .inr (10, [.ref tp, .int kd, .int sa, .int nu, .int bv])), (tp, .inr (9, [.ref by_, .int le])), (by_, .inl (E.2.1 0, 800, .inl f))] H := hP
      have hD : va_D A [(h0, .inr (10, [.ref tp, .int kd, .int sa, .int nu, .int bv])), (tp, .inr (9, [.ref by_, .int le])), (by_, .inl (E.2.1 0, 800, .inl f))] := hD
      have hPc := hP.sub (ws' := []) [] rfl
      have hDc := hD.sub (ws' := []) [] (by decide) rfl
      have hFc := va_free (wc := []) hD hS hA [] rfl
      refine va_calli (va_runS (As := [.int r_2]) (rest := []) ⟨hx, hb, hml, hown, hts⟩ (c_X10_isBlank l E r_2 H.size ) (va_cwS 1 hts gX10_skipBlanks_X10_isBlank rfl rfl rfl hdS_X10_isBlank ⟨Nat.le_of_ble_eq_true rfl, Nat.le_of_ble_eq_true rfl⟩) ⟨pcW_blind, (pcW_pre hPc hkn hDc hst hS hFc)⟩ rfl rfl hl.1 rfl (lv_room (Nat.le_of_ble_eq_true rfl)) dX10_skipBlanks_25 ⟨Nat.le_of_ble_eq_true rfl, Nat.le_of_ble_eq_true rfl⟩) hS (fun q _ h => hFc q h) hFc (fun r_4 u t H1 locs ht hvm hw_5 hB hz1 hk1 hS => ?_)
      obtain ⟨hP1, hD1⟩ := hB
      rw [ht] at hP1
      try dsimp only at hw_5
      obtain ⟨hP, hD⟩ := va_join (wr := [(h0, .inr (10, [.ref tp, .int kd, .int sa, .int nu, .int bv])), (tp, .inr (9, [.ref by_, .int le])), (by_, .inl (E.2.1 0, 800, .inl f))]) (w1 := []) hP hD [] [0, 1, 2] rfl rfl (by decide) (by decide) hk1 hFc hP1 hD1
      generalize H1 = H at hP hS ⊢
      have hP : va_P E.1 vwCl [(h0, .inr (10, [.ref tp, .int kd, .int sa, .int nu, .int bv])), (tp, .inr (9, [.ref by_, .int le])), (by_, .inl (E.2.1 0, 800, .inl f))] H := hP
      have hD : va_D A [(h0, .inr (10, [.ref tp, .int kd, .int sa, .int nu, .int bv])), (tp, .inr (9, [.ref by_, .int le])), (by_, .inl (E.2.1 0, 800, .inl f))] := hD
      refine lv_if_eq (tgt := 44) hx hb dX10_skipBlanks_28 (by decide) (fun c_6 => ?_) (fun c_6 => ?_)
      · exact kk bv _ _ _  (hP.sub [0, 1, 2] rfl) (hD.sub [0, 1, 2] (by decide) rfl) hS (lv_sub hl [0] rfl)
      · refine lv_aload_n hx hb dX10_skipBlanks_31 rfl (lv_at hl 0 rfl) ?_
        refine lv_dup hx hb dX10_skipBlanks_32 rfl ?_
        refine va_get (D := E.1) (ci := 10) (v := .int bv) (C := RX10) (T := TX10) (N := 5) hx hb hts inX10 hown hK hP 0 rfl rfl 4 (by decide) fl21 (fun _ h9 => h9) rfl dX10_skipBlanks_33 ?_
        refine lv_iconst (v := 1) hx hb dX10_skipBlanks_36 (by decide) ?_
        refine lv_iadd hx hb dX10_skipBlanks_37 ?_
        refine lv_topi (fun x_7 ex_7 => ?_)
        refine va_put (D := E.1) (ci := 10) (v := .int x_7) (ty := .int) (C := RX10) (T := TX10) (N := 5) hx hb hts inX10 tyX10 tyX10_ok nmX10 hown hK hP hD hS 0 rfl rfl 4 (by decide) fl21 (fun _ h9 => h9) rfl (by decide +kernel) rfl rfl (Nat.le_of_ble_eq_true rfl) dX10_skipBlanks_38 (fun H locs hP hD hS => ?_)
        have hP : va_P E.1 vwCl [(h0, .inr (10, [.ref tp, .int kd, .int sa, .int nu, .int x_7])), (tp, .inr (9, [.ref by_, .int le])), (by_, .inl (E.2.1 0, 800, .inl f))] H := hP
        have hD : va_D A [(h0, .inr (10, [.ref tp, .int kd, .int sa, .int nu, .int x_7])), (tp, .inr (9, [.ref by_, .int le])), (by_, .inl (E.2.1 0, 800, .inl f))] := hD
        refine lv_goto (tgt := 0) hx hb dX10_skipBlanks_41 (by decide) ?_
        exact ih x_7 _ _ _ (by
                have := toInt_s c_1
                rw [ex_7, this]
                have h2 := (ii_lt _ _).mp (Int32.not_le.mp c_1)
                omega) (hP.sub [0, 1, 2] rfl) (hD.sub [0, 1, 2] (by decide) rfl) hS (lv_sub hl [0] rfl)
set_option maxHeartbeats 4000000 in
set_option maxRecDepth 100000 in
theorem c_X10_skipBlanks (l : Launch) (E : vE) (h0 : Nat) (tp : Nat) (by_ : Nat) (kd : Int32) (sa : Int32) (nu : Int32) (be : Int32) (le : Int32) (f : Nat → Int32) (sz : Nat) : Met l yX10_skipBlanks wsX10_skipBlanks ({ frames := 1, cells := 0, slots := 0, locals := 21 }) (pcW E [.ref h0] sz [(h0, .inr (10, [.ref tp, .int kd, .int sa, .int nu, .int be])), (tp, .inr (9, [.ref by_, .int le])), (by_, .inl (E.2.1 0, 800, .inl f))]) (va_Qv (fun (be2 : Int32) => True) (fun (be2 : Int32) (t : State) => wB E (va_A [(h0, .inr (10, [.ref tp, .int kd, .int sa, .int nu, .int be])), (tp, .inr (9, [.ref by_, .int le])), (by_, .inl (E.2.1 0, 800, .inl f))] sz) [(h0, .inr (10, [.ref tp, .int kd, .int sa, .int nu, .int be2])), (tp, .inr (9, [.ref by_, .int le])), (by_, .inl (E.2.1 0, 800, .inl f))] t) (va_A [(h0, .inr (10, [.ref tp, .int kd, .int sa, .int nu, .int be])), (tp, .inr (9, [.ref by_, .int le])), (by_, .inl (E.2.1 0, 800, .inl f))] sz)) 0 0 (va_A [(h0, .inr (10, [.ref tp, .int kd, .int sa, .int nu, .int be])), (tp, .inr (9, [.ref by_, .int le])), (by_, .inl (E.2.1 0, 800, .inl f))] sz) := by
  refine Met.ofW (cc := cX10_skipBlanks) (maxL := 1) (ret := none) (by decide) rfl ?_
  intro p e s m args below meth c s₁ B hml hv
  obtain ⟨rfl, hsz, hP, hkn, hD0, hst⟩ := hv
  have hx := B.exec
  have hb := B.bytes
  have hr := B.returns
  have hts := atoms_spec (ws := wsX10_skipBlanks) B.pre
  have hown : s.vm.findClass RX10 = some m.cls := findClass_of_methodNamed B.named
  have hlocks := B.notSynchronized
  subst hsz
  have hD := hD0.self (sz := s.heap.size)
  have hK := hkn.1
  have hAO := hkn.2.2.1
  generalize hAe : va_A [(h0, .inr (10, [.ref tp, .int kd, .int sa, .int nu, .int be])), (tp, .inr (9, [.ref by_, .int le])), (by_, .inl (E.2.1 0, 800, .inl f))] s.heap.size = A at hD hst ⊢
  have hA : ∀ q : Nat, s.heap.size ≤ q → A q := fun q h => by rw [← hAe]; exact Or.inr h
  have hS : va_S A s.heap s.heap [] := va_S.rf
  have hP : va_P E.1 vwCl [(h0, .inr (10, [.ref tp, .int kd, .int sa, .int nu, .int be])), (tp, .inr (9, [.ref by_, .int le])), (by_, .inl (E.2.1 0, 800, .inl f))] s.heap := hP
  have hl := lv_entry ([.ref h0]) (n := 1) (Nat.le_of_ble_eq_true rfl)
  rw [lg_entry_eq]
  generalize (lg_sl ([.ref h0]) ++ List.replicate (1 - (lg_sl ([.ref h0])).length) Slot.unset).toArray = ls at hl ⊢
  have hl : lv_has ls 1 [(0, .ref h0)] := hl
  have fl21 := hts (.fieldLink RX10 21 "BoatsHome$Tokens" "behind" "I") (by first | exact List.mem_of_getElem? (i := 1) rfl | decide +kernel)
  have fl24 := hts (.fieldLink RX10 24 "BoatsHome$Tokens" "tape" "LBoatsHome$Tape;") (by first | exact List.mem_of_getElem? (i := 2) rfl | decide +kernel)
  have fl63 := hts (.fieldLink RX10 63 "BoatsHome$Tape" "length" "I") (by first | exact List.mem_of_getElem? (i := 3) rfl | decide +kernel)
  have inX10 : ∀ w ∈ u_ws RX10 TX10 5, w ∈ wsX10_skipBlanks := by first | exact fun w h9 => (List.mem_cons_of_mem _ (List.mem_append_left _ (List.mem_append_right _ h9))) | decide +kernel
  have inX9 : ∀ w ∈ u_ws RX9 TX9 2, w ∈ wsX10_skipBlanks := by first | exact fun w h9 => (List.mem_cons_of_mem _ (List.mem_append_right _ h9)) | decide +kernel
  have hPl := hP.sub (ws' := [(h0, .inr (10, [.ref tp, .int kd, .int sa, .int nu, .int be])), (tp, .inr (9, [.ref by_, .int le])), (by_, .inl (E.2.1 0, 800, .inl f))]) [0, 1, 2] rfl
  have hDl := hD.sub (ws' := [(h0, .inr (10, [.ref tp, .int kd, .int sa, .int nu, .int be])), (tp, .inr (9, [.ref by_, .int le])), (by_, .inl (E.2.1 0, 800, .inl f))]) [0, 1, 2] (by decide) rfl
  refine lg_skip E h0 tp by_ kd sa nu le f hx hb hml hown hts hkn hst hA  (fun n_1 H locs ls  hP hD hS hl => ?_) ((le).toInt - (be : Int32).toInt).toNat.succ be _ _ _ (Nat.lt_succ_self _) hPl hDl hS (lv_sub hl [0] rfl)
  have hP : va_P E.1 vwCl [(h0, .inr (10, [.ref tp, .int kd, .int sa, .int nu, .int n_1])), (tp, .inr (9, [.ref by_, .int le])), (by_, .inl (E.2.1 0, 800, .inl f))] H := hP
  have hD : va_D A [(h0, .inr (10, [.ref tp, .int kd, .int sa, .int nu, .int n_1])), (tp, .inr (9, [.ref by_, .int le])), (by_, .inl (E.2.1 0, 800, .inl f))] := hD
  have hP9 := hP.sub (ws' := [(h0, .inr (10, [.ref tp, .int kd, .int sa, .int nu, .int n_1])), (tp, .inr (9, [.ref by_, .int le])), (by_, .inl (E.2.1 0, 800, .inl f))]) [0, 1, 2] rfl
  have hD9 := hD.sub (ws' := [(h0, .inr (10, [.ref tp, .int kd, .int sa, .int nu, .int n_1])), (tp, .inr (9, [.ref by_, .int le])), (by_, .inl (E.2.1 0, 800, .inl f))]) [0, 1, 2] (by decide) rfl
  exact W.vret hx hb hr (fun t ht hW => ⟨⟨n_1, rfl, trivial, by rw [ht]; exact hP9, hD9⟩, hS.F ht⟩) hS.2.2 dX10_skipBlanks_44
set_option maxHeartbeats 4000000 in
set_option maxRecDepth 100000 in
theorem lg_word {p : Program} {l : Launch} {e : Env} {s : State} {m : MethodId} {args : Array Value} {below : List Frame} {meth : Method} {c : Code} {Q : State → Prop} {A : Nat → Prop} (E : vE) (h0 : Nat) (tp : Nat) (by_ : Nat) (kd : Int32) (sa : Int32) (nu : Int32) (le : Int32) (f : Nat → Int32) (hx : p.tables.exec = Jvm.exec) (hb : c.code = cX10_readWord) (hml : c.maxLocals = 1) (hown : s.vm.findClass RX10 = some m.cls) (hts : ∀ w ∈ wsX10_readWord, w.before args s = true) (hkn : kn E s) (hst : st E A s s.heap) (hA : ∀ q : Nat, s.heap.size ≤ q → A q) (kk : ∀ (bv : Int32) (H : Heap) (locs : List Loc) (ls : Array Slot), va_P E.1 vwCl [(h0, .inr (10, [.ref tp, .int kd, .int sa, .int nu, .int bv])), (tp, .inr (9, [.ref by_, .int le])), (by_, .inl (E.2.1 0, 800, .inl f))] H → va_D A [(h0, .inr (10, [.ref tp, .int kd, .int sa, .int nu, .int bv])), (tp, .inr (9, [.ref by_, .int le])), (by_, .inl (E.2.1 0, 800, .inl f))] → va_S A s.heap H locs → lv_has ls 1 [(0, .ref h0)] → W p l e ({ frames := 1, cells := 0, slots := 0, locals := 21 }) s m args below meth c H locs 0 0 Q (F0 m 49 ls [])) : ∀ (n0 : Nat) (bv : Int32) (H : Heap) (locs : List Loc) (ls : Array Slot), (le.toInt - bv.toInt).toNat < n0 → va_P E.1 vwCl [(h0, .inr (10, [.ref tp, .int kd, .int sa, .int nu, .int bv])), (tp, .inr (9, [.ref by_, .int le])), (by_, .inl (E.2.1 0, 800, .inl f))] H → va_D A [(h0, .inr (10, [.ref tp, .int kd, .int sa, .int nu, .int bv])), (tp, .inr (9, [.ref by_, .int le])), (by_, .inl (E.2.1 0, 800, .inl f))] → va_S A s.heap H locs → lv_has ls 1 [(0, .ref h0)] → W p l e ({ frames := 1, cells := 0, slots := 0, locals := 21 }) s m args below meth c H locs 0 0 Q (F0 m 5 ls []) := by
  have hK := hkn.1
  have hAO := hkn.2.2.1
  have fl11 := hts (.fieldLink RX10 11 "BoatsHome$Tokens" "kind" "I") (by first | exact List.mem_of_getElem? (i := 1) rfl | decide +kernel)
  have fl21 := hts (.fieldLink RX10 21 "BoatsHome$Tokens" "behind" "I") (by first | exact List.mem_of_getElem? (i := 2) rfl | decide +kernel)
  have fl24 := hts (.fieldLink RX10 24 "BoatsHome$Tokens" "tape" "LBoatsHome$Tape;") (by first | exact List.mem_of_getElem? (i := 3) rfl | decide +kernel)
  have fl63 := hts (.fieldLink RX10 63 "BoatsHome$Tape" "length" "I") (by first | exact List.mem_of_getElem? (i := 4) rfl | decide +kernel)
  have inX10 : ∀ w ∈ u_ws RX10 TX10 5, w ∈ wsX10_readWord := by first | exact fun w h9 => (List.mem_cons_of_mem _ (List.mem_append_left _ (List.mem_append_right _ h9))) | decide +kernel
  have inX9 : ∀ w ∈ u_ws RX9 TX9 2, w ∈ wsX10_readWord := by first | exact fun w h9 => (List.mem_cons_of_mem _ (List.mem_append_right _ h9)) | decide +kernel
  intro n0
  induction n0 with
  | zero =>
    intro bv H locs ls hn0
    exact absurd hn0 (Nat.not_lt_zero _)
  | succ n0 ih =>
    intro bv H locs ls hn0  hP hD hS hl
    refine lv_aload_n hx hb dX10_readWord_5 rfl (lv_at hl 0 rfl) ?_
    refine va_get (D := E.1) (ci := 10) (v := .int bv) (C := RX10) (T := TX10) (N := 5) hx hb hts inX10 hown hK hP 0 rfl rfl 4 (by decide) fl21 (fun _ h9 => h9) rfl dX10_readWord_6 ?_
    refine lv_aload_n hx hb dX10_readWord_9 rfl (lv_at hl 0 rfl) ?_
    refine va_get (D := E.1) (ci := 10) (v := .ref tp) (C := RX10) (T := TX10) (N := 5) hx hb hts inX10 hown hK hP 0 rfl rfl 0 (by decide) fl24 (fun _ h9 => h9) rfl dX10_readWord_10 ?_
    refine va_get (D := E.1) (ci := 9) (v := .int le) (C := RX9) (T := TX9) (N := 2) hx hb hts inX9 hown hK hP 1 rfl rfl 1 (by decide) fl63 (fun _ h9 => h9) rfl dX10_readWord_13 ?_
    refine lv_icmp_ge (tgt := 49) hx hb dX10_readWord_16 (by decide) (fun c_1 => ?_) (fun c_1 => ?_)
    · exact kk bv _ _ _  (hP.sub [0, 1, 2] rfl) (hD.sub [0, 1, 2] (by decide) rfl) hS (lv_sub hl [0] rfl)
    · refine lv_aload_n hx hb dX10_readWord_19 rfl (lv_at hl 0 rfl) ?_
      refine va_get (D := E.1) (ci := 10) (v := .ref tp) (C := RX10) (T := TX10) (N := 5) hx hb hts inX10 hown hK hP 0 rfl rfl 0 (by decide) fl24 (fun _ h9 => h9) rfl dX10_readWord_20 ?_
      refine lv_aload_n hx hb dX10_readWord_23 rfl (lv_at hl 0 rfl) ?_
      refine va_get (D := E.1) (ci := 10) (v := .int bv) (C := RX10) (T := TX10) (N := 5) hx hb hts inX10 hown hK hP 0 rfl rfl 4 (by decide) fl21 (fun _ h9 => h9) rfl dX10_readWord_24 ?_
      have hPc := hP.sub (ws' := [(tp, .inr (9, [.ref by_, .int le])), (by_, .inl (E.2.1 0, 800, .inl f))]) [1, 2] rfl
      have hDc := hD.sub (ws' := [(tp, .inr (9, [.ref by_, .int le])), (by_, .inl (E.2.1 0, 800, .inl f))]) [1, 2] (by decide) rfl
      have hFc := va_free (wc := [(tp, .inr (9, [.ref by_, .int le])), (by_, .inl (E.2.1 0, 800, .inl f))]) hD hS hA [1, 2] rfl
      refine va_calli (va_runV (As := [.int bv]) (rest := []) ⟨hx, hb, hml, hown, hts⟩ (c_X9_byteAt l E tp by_ le bv f H.size ) (cwV 1 hts gX10_readWord_X9_byteAt rfl rfl rfl hdV_X9_byteAt ⟨Nat.le_of_ble_eq_true rfl, Nat.le_of_ble_eq_true rfl⟩) ⟨pcW_blind, va_recv hK hPc (ci := 9) (q0 := 0) rfl rfl, (pcW_pre hPc hkn hDc hst hS hFc)⟩ rfl rfl hl.1 rfl (lv_room (Nat.le_of_ble_eq_true rfl)) dX10_readWord_27 ⟨Nat.le_of_ble_eq_true rfl, Nat.le_of_ble_eq_true rfl⟩) hS (fun q _ h => hFc q h) hFc (fun r_2 u t H1 locs ht hvm hw_3 hB hz1 hk1 hS => ?_)
      obtain ⟨hP1, hD1⟩ := hB
      rw [ht] at hP1
      try dsimp only at hw_3
      obtain ⟨hP, hD⟩ := va_join (wr := [(h0, .inr (10, [.ref tp, .int kd, .int sa, .int nu, .int bv]))]) (w1 := [(tp, .inr (9, [.ref by_, .int le])), (by_, .inl (E.2.1 0, 800, .inl f))]) hP hD [1, 2] [0] rfl rfl (by decide) (by decide) hk1 hFc hP1 hD1
      generalize H1 = H at hP hS ⊢
      have hP : va_P E.1 vwCl [(h0, .inr (10, [.ref tp, .int kd, .int sa, .int nu, .int bv])), (tp, .inr (9, [.ref by_, .int le])), (by_, .inl (E.2.1 0, 800, .inl f))] H := hP
      have hD : va_D A [(h0, .inr (10, [.ref tp, .int kd, .int sa, .int nu, .int bv])), (tp, .inr (9, [.ref by_, .int le])), (by_, .inl (E.2.1 0, 800, .inl f))] := hD
      have hPc := hP.sub (ws' := []) [] rfl
      have hDc := hD.sub (ws' := []) [] (by decide) rfl
      have hFc := va_free (wc := []) hD hS hA [] rfl
      refine va_calli (va_runS (As := [.int r_2]) (rest := []) ⟨hx, hb, hml, hown, hts⟩ (c_X10_isLetter l E r_2 H.size ) (va_cwS 1 hts gX10_readWord_X10_isLetter rfl rfl rfl hdS_X10_isLetter ⟨Nat.le_of_ble_eq_true rfl, Nat.le_of_ble_eq_true rfl⟩) ⟨pcW_blind, (pcW_pre hPc hkn hDc hst hS hFc)⟩ rfl rfl hl.1 rfl (lv_room (Nat.le_of_ble_eq_true rfl)) dX10_readWord_30 ⟨Nat.le_of_ble_eq_true rfl, Nat.le_of_ble_eq_true rfl⟩) hS (fun q _ h => hFc q h) hFc (fun r_4 u t H1 locs ht hvm hw_5 hB hz1 hk1 hS => ?_)
      obtain ⟨hP1, hD1⟩ := hB
      rw [ht] at hP1
      try dsimp only at hw_5
      obtain ⟨hP, hD⟩ := va_join (wr := [(h0, .inr (10, [.ref tp, .int kd, .int sa, .int nu, .int bv])), (tp, .inr (9, [.ref by_, .int le])), (by_, .inl (E.2.1 0, 800, .inl f))]) (w1 := []) hP hD [] [0, 1, 2] rfl rfl (by decide) (by decide) hk1 hFc hP1 hD1
      generalize H1 = H at hP hS ⊢
      have hP : va_P E.1 vwCl [(h0, .inr (10, [.ref tp, .int kd, .int sa, .int nu, .int bv])), (tp, .inr (9, [.ref by_, .int le])), (by_, .inl (E.2.1 0, 800, .inl f))] H := hP
      have hD : va_D A [(h0, .inr (10, [.ref tp, .int kd, .int sa, .int nu, .int bv])), (tp, .inr (9, [.ref by_, .int le])), (by_, .inl (E.2.1 0, 800, .inl f))] := hD
      refine lv_if_eq (tgt := 49) hx hb dX10_readWord_33 (by decide) (fun c_6 => ?_) (fun c_6 => ?_)
      · exact kk bv _ _ _  (hP.sub [0, 1, 2] rfl) (hD.sub [0, 1, 2] (by decide) rfl) hS (lv_sub hl [0] rfl)
      · refine lv_aload_n hx hb dX10_readWord_36 rfl (lv_at hl 0 rfl) ?_
        refine lv_dup hx hb dX10_readWord_37 rfl ?_
        refine va_get (D := E.1) (ci := 10) (v := .int bv) (C := RX10) (T := TX10) (N := 5) hx hb hts inX10 hown hK hP 0 rfl rfl 4 (by decide) fl21 (fun _ h9 => h9) rfl dX10_readWord_38 ?_
        refine lv_iconst (v := 1) hx hb dX10_readWord_41 (by decide) ?_
        refine lv_iadd hx hb dX10_readWord_42 ?_
        refine lv_topi (fun x_7 ex_7 => ?_)
        refine va_put (D := E.1) (ci := 10) (v := .int x_7) (ty := .int) (C := RX10) (T := TX10) (N := 5) hx hb hts inX10 tyX10 tyX10_ok nmX10 hown hK hP hD hS 0 rfl rfl 4 (by decide) fl21 (fun _ h9 => h9) rfl (by decide +kernel) rfl rfl (Nat.le_of_ble_eq_true rfl) dX10_readWord_43 (fun H locs hP hD hS => ?_)
        have hP : va_P E.1 vwCl [(h0, .inr (10, [.ref tp, .int kd, .int sa, .int nu, .int x_7])), (tp, .inr (9, [.ref by_, .int le])), (by_, .inl (E.2.1 0, 800, .inl f))] H := hP
        have hD : va_D A [(h0, .inr (10, [.ref tp, .int kd, .int sa, .int nu, .int x_7])), (tp, .inr (9, [.ref by_, .int le])), (by_, .inl (E.2.1 0, 800, .inl f))] := hD
        refine lv_goto (tgt := 5) hx hb dX10_readWord_46 (by decide) ?_
        exact ih x_7 _ _ _ (by
                have := toInt_s c_1
                rw [ex_7, this]
                have h2 := (ii_lt _ _).mp (Int32.not_le.mp c_1)
                omega) (hP.sub [0, 1, 2] rfl) (hD.sub [0, 1, 2] (by decide) rfl) hS (lv_sub hl [0] rfl)
set_option maxHeartbeats 4000000 in
set_option maxRecDepth 100000 in
theorem c_X10_readWord (l : Launch) (E : vE) (h0 : Nat) (tp : Nat) (by_ : Nat) (kd : Int32) (sa : Int32) (nu : Int32) (be : Int32) (le : Int32) (f : Nat → Int32) (sz : Nat) : Met l yX10_readWord wsX10_readWord ({ frames := 1, cells := 0, slots := 0, locals := 21 }) (pcW E [.ref h0] sz [(h0, .inr (10, [.ref tp, .int kd, .int sa, .int nu, .int be])), (tp, .inr (9, [.ref by_, .int le])), (by_, .inl (E.2.1 0, 800, .inl f))]) (va_Qv (fun (be2 : Int32) => True) (fun (be2 : Int32) (t : State) => wB E (va_A [(h0, .inr (10, [.ref tp, .int kd, .int sa, .int nu, .int be])), (tp, .inr (9, [.ref by_, .int le])), (by_, .inl (E.2.1 0, 800, .inl f))] sz) [(h0, .inr (10, [.ref tp, .int 1, .int sa, .int nu, .int be2])), (tp, .inr (9, [.ref by_, .int le])), (by_, .inl (E.2.1 0, 800, .inl f))] t) (va_A [(h0, .inr (10, [.ref tp, .int kd, .int sa, .int nu, .int be])), (tp, .inr (9, [.ref by_, .int le])), (by_, .inl (E.2.1 0, 800, .inl f))] sz)) 0 0 (va_A [(h0, .inr (10, [.ref tp, .int kd, .int sa, .int nu, .int be])), (tp, .inr (9, [.ref by_, .int le])), (by_, .inl (E.2.1 0, 800, .inl f))] sz) := by
  refine Met.ofW (cc := cX10_readWord) (maxL := 1) (ret := none) (by decide) rfl ?_
  intro p e s m args below meth c s₁ B hml hv
  obtain ⟨rfl, hsz, hP, hkn, hD0, hst⟩ := hv
  have hx := B.exec
  have hb := B.bytes
  have hr := B.returns
  have hts := atoms_spec (ws := wsX10_readWord) B.pre
  have hown : s.vm.findClass RX10 = some m.cls := findClass_of_methodNamed B.named
  have hlocks := B.notSynchronized
  subst hsz
  have hD := hD0.self (sz := s.heap.size)
  have hK := hkn.1
  have hAO := hkn.2.2.1
  generalize hAe : va_A [(h0, .inr (10, [.ref tp, .int kd, .int sa, .int nu, .int be])), (tp, .inr (9, [.ref by_, .int le])), (by_, .inl (E.2.1 0, 800, .inl f))] s.heap.size = A at hD hst ⊢
  have hA : ∀ q : Nat, s.heap.size ≤ q → A q := fun q h => by rw [← hAe]; exact Or.inr h
  have hS : va_S A s.heap s.heap [] := va_S.rf
  have hP : va_P E.1 vwCl [(h0, .inr (10, [.ref tp, .int kd, .int sa, .int nu, .int be])), (tp, .inr (9, [.ref by_, .int le])), (by_, .inl (E.2.1 0, 800, .inl f))] s.heap := hP
  have hl := lv_entry ([.ref h0]) (n := 1) (Nat.le_of_ble_eq_true rfl)
  rw [lg_entry_eq]
  generalize (lg_sl ([.ref h0]) ++ List.replicate (1 - (lg_sl ([.ref h0])).length) Slot.unset).toArray = ls at hl ⊢
  have hl : lv_has ls 1 [(0, .ref h0)] := hl
  have fl11 := hts (.fieldLink RX10 11 "BoatsHome$Tokens" "kind" "I") (by first | exact List.mem_of_getElem? (i := 1) rfl | decide +kernel)
  have fl21 := hts (.fieldLink RX10 21 "BoatsHome$Tokens" "behind" "I") (by first | exact List.mem_of_getElem? (i := 2) rfl | decide +kernel)
  have fl24 := hts (.fieldLink RX10 24 "BoatsHome$Tokens" "tape" "LBoatsHome$Tape;") (by first | exact List.mem_of_getElem? (i := 3) rfl | decide +kernel)
  have fl63 := hts (.fieldLink RX10 63 "BoatsHome$Tape" "length" "I") (by first | exact List.mem_of_getElem? (i := 4) rfl | decide +kernel)
  have inX10 : ∀ w ∈ u_ws RX10 TX10 5, w ∈ wsX10_readWord := by first | exact fun w h9 => (List.mem_cons_of_mem _ (List.mem_append_left _ (List.mem_append_right _ h9))) | decide +kernel
  have inX9 : ∀ w ∈ u_ws RX9 TX9 2, w ∈ wsX10_readWord := by first | exact fun w h9 => (List.mem_cons_of_mem _ (List.mem_append_right _ h9)) | decide +kernel
  refine lv_aload_n hx hb dX10_readWord_0 rfl (lv_at hl 0 rfl) ?_
  refine lv_iconst (v := 1) hx hb dX10_readWord_1 (by decide) ?_
  refine va_put (D := E.1) (ci := 10) (v := .int 1) (ty := .int) (C := RX10) (T := TX10) (N := 5) hx hb hts inX10 tyX10 tyX10_ok nmX10 hown hK hP hD hS 0 rfl rfl 1 (by decide) fl11 (fun _ h9 => h9) rfl (by decide +kernel) rfl rfl (Nat.le_of_ble_eq_true rfl) dX10_readWord_2 (fun H locs hP hD hS => ?_)
  have hP : va_P E.1 vwCl [(h0, .inr (10, [.ref tp, .int 1, .int sa, .int nu, .int be])), (tp, .inr (9, [.ref by_, .int le])), (by_, .inl (E.2.1 0, 800, .inl f))] H := hP
  have hD : va_D A [(h0, .inr (10, [.ref tp, .int 1, .int sa, .int nu, .int be])), (tp, .inr (9, [.ref by_, .int le])), (by_, .inl (E.2.1 0, 800, .inl f))] := hD
  have hPl := hP.sub (ws' := [(h0, .inr (10, [.ref tp, .int 1, .int sa, .int nu, .int be])), (tp, .inr (9, [.ref by_, .int le])), (by_, .inl (E.2.1 0, 800, .inl f))]) [0, 1, 2] rfl
  have hDl := hD.sub (ws' := [(h0, .inr (10, [.ref tp, .int 1, .int sa, .int nu, .int be])), (tp, .inr (9, [.ref by_, .int le])), (by_, .inl (E.2.1 0, 800, .inl f))]) [0, 1, 2] (by decide) rfl
  refine lg_word E h0 tp by_ 1 sa nu le f hx hb hml hown hts hkn hst hA  (fun n_1 H locs ls  hP hD hS hl => ?_) ((le).toInt - (be : Int32).toInt).toNat.succ be _ _ _ (Nat.lt_succ_self _) hPl hDl hS (lv_sub hl [0] rfl)
  have hP : va_P E.1 vwCl [(h0, .inr (10, [.ref tp, .int 1, .int sa, .int nu, .int n_1])), (tp, .inr (9, [.ref by_, .int le])), (by_, .inl (E.2.1 0, 800, .inl f))] H := hP
  have hD : va_D A [(h0, .inr (10, [.ref tp, .int 1, .int sa, .int nu, .int n_1])), (tp, .inr (9, [.ref by_, .int le])), (by_, .inl (E.2.1 0, 800, .inl f))] := hD
  have hP9 := hP.sub (ws' := [(h0, .inr (10, [.ref tp, .int 1, .int sa, .int nu, .int n_1])), (tp, .inr (9, [.ref by_, .int le])), (by_, .inl (E.2.1 0, 800, .inl f))]) [0, 1, 2] rfl
  have hD9 := hD.sub (ws' := [(h0, .inr (10, [.ref tp, .int 1, .int sa, .int nu, .int n_1])), (tp, .inr (9, [.ref by_, .int le])), (by_, .inl (E.2.1 0, 800, .inl f))]) [0, 1, 2] (by decide) rfl
  exact W.vret hx hb hr (fun t ht hW => ⟨⟨n_1, rfl, trivial, by rw [ht]; exact hP9, hD9⟩, hS.F ht⟩) hS.2.2 dX10_readWord_49
set_option maxHeartbeats 4000000 in
set_option maxRecDepth 100000 in
theorem lg_num {p : Program} {l : Launch} {e : Env} {s : State} {m : MethodId} {args : Array Value} {below : List Frame} {meth : Method} {c : Code} {Q : State → Prop} {A : Nat → Prop} (E : vE) (h0 : Nat) (tp : Nat) (by_ : Nat) (kd : Int32) (sa : Int32) (le : Int32) (f : Nat → Int32) (hx : p.tables.exec = Jvm.exec) (hb : c.code = cX10_readNumber) (hml : c.maxLocals = 1) (hown : s.vm.findClass RX10 = some m.cls) (hts : ∀ w ∈ wsX10_readNumber, w.before args s = true) (hkn : kn E s) (hst : st E A s s.heap) (hA : ∀ q : Nat, s.heap.size ≤ q → A q) (kk : ∀ (bv : Int32) (nv : Int32) (H : Heap) (locs : List Loc) (ls : Array Slot), va_P E.1 vwCl [(h0, .inr (10, [.ref tp, .int kd, .int sa, .int nv, .int bv])), (tp, .inr (9, [.ref by_, .int le])), (by_, .inl (E.2.1 0, 800, .inl f))] H → va_D A [(h0, .inr (10, [.ref tp, .int kd, .int sa, .int nv, .int bv])), (tp, .inr (9, [.ref by_, .int le])), (by_, .inl (E.2.1 0, 800, .inl f))] → va_S A s.heap H locs → lv_has ls 1 [(0, .ref h0)] → W p l e ({ frames := 1, cells := 0, slots := 0, locals := 21 }) s m args below meth c H locs 0 0 Q (F0 m 88 ls [])) : ∀ (n0 : Nat) (bv : Int32) (nv : Int32) (H : Heap) (locs : List Loc) (ls : Array Slot), (le.toInt - bv.toInt).toNat < n0 → va_P E.1 vwCl [(h0, .inr (10, [.ref tp, .int kd, .int sa, .int nv, .int bv])), (tp, .inr (9, [.ref by_, .int le])), (by_, .inl (E.2.1 0, 800, .inl f))] H → va_D A [(h0, .inr (10, [.ref tp, .int kd, .int sa, .int nv, .int bv])), (tp, .inr (9, [.ref by_, .int le])), (by_, .inl (E.2.1 0, 800, .inl f))] → va_S A s.heap H locs → lv_has ls 1 [(0, .ref h0)] → W p l e ({ frames := 1, cells := 0, slots := 0, locals := 21 }) s m args below meth c H locs 0 0 Q (F0 m 5 ls []) := by
  have hK := hkn.1
  have hAO := hkn.2.2.1
  have fl11 := hts (.fieldLink RX10 11 "BoatsHome$Tokens" "kind" "I") (by first | exact List.mem_of_getElem? (i := 6) rfl | decide +kernel)
  have fl15 := hts (.fieldLink RX10 15 "BoatsHome$Tokens" "start" "I") (by first | exact List.mem_of_getElem? (i := 5) rfl | decide +kernel)
  have fl18 := hts (.fieldLink RX10 18 "BoatsHome$Tokens" "number" "I") (by first | exact List.mem_of_getElem? (i := 1) rfl | decide +kernel)
  have fl21 := hts (.fieldLink RX10 21 "BoatsHome$Tokens" "behind" "I") (by first | exact List.mem_of_getElem? (i := 2) rfl | decide +kernel)
  have fl24 := hts (.fieldLink RX10 24 "BoatsHome$Tokens" "tape" "LBoatsHome$Tape;") (by first | exact List.mem_of_getElem? (i := 3) rfl | decide +kernel)
  have fl63 := hts (.fieldLink RX10 63 "BoatsHome$Tape" "length" "I") (by first | exact List.mem_of_getElem? (i := 4) rfl | decide +kernel)
  have inX10 : ∀ w ∈ u_ws RX10 TX10 5, w ∈ wsX10_readNumber := by first | exact fun w h9 => (List.mem_cons_of_mem _ (List.mem_append_left _ (List.mem_append_right _ h9))) | decide +kernel
  have inX9 : ∀ w ∈ u_ws RX9 TX9 2, w ∈ wsX10_readNumber := by first | exact fun w h9 => (List.mem_cons_of_mem _ (List.mem_append_right _ h9)) | decide +kernel
  intro n0
  induction n0 with
  | zero =>
    intro bv nv H locs ls hn0
    exact absurd hn0 (Nat.not_lt_zero _)
  | succ n0 ih =>
    intro bv nv H locs ls hn0  hP hD hS hl
    refine lv_aload_n hx hb dX10_readNumber_5 rfl (lv_at hl 0 rfl) ?_
    refine va_get (D := E.1) (ci := 10) (v := .int bv) (C := RX10) (T := TX10) (N := 5) hx hb hts inX10 hown hK hP 0 rfl rfl 4 (by decide) fl21 (fun _ h9 => h9) rfl dX10_readNumber_6 ?_
    refine lv_aload_n hx hb dX10_readNumber_9 rfl (lv_at hl 0 rfl) ?_
    refine va_get (D := E.1) (ci := 10) (v := .ref tp) (C := RX10) (T := TX10) (N := 5) hx hb hts inX10 hown hK hP 0 rfl rfl 0 (by decide) fl24 (fun _ h9 => h9) rfl dX10_readNumber_10 ?_
    refine va_get (D := E.1) (ci := 9) (v := .int le) (C := RX9) (T := TX9) (N := 2) hx hb hts inX9 hown hK hP 1 rfl rfl 1 (by decide) fl63 (fun _ h9 => h9) rfl dX10_readNumber_13 ?_
    refine lv_icmp_ge (tgt := 88) hx hb dX10_readNumber_16 (by decide) (fun c_1 => ?_) (fun c_1 => ?_)
    · exact kk bv nv _ _ _  (hP.sub [0, 1, 2] rfl) (hD.sub [0, 1, 2] (by decide) rfl) hS (lv_sub hl [0] rfl)
    · refine lv_aload_n hx hb dX10_readNumber_19 rfl (lv_at hl 0 rfl) ?_
      refine va_get (D := E.1) (ci := 10) (v := .int bv) (C := RX10) (T := TX10) (N := 5) hx hb hts inX10 hown hK hP 0 rfl rfl 4 (by decide) fl21 (fun _ h9 => h9) rfl dX10_readNumber_20 ?_
      refine lv_aload_n hx hb dX10_readNumber_23 rfl (lv_at hl 0 rfl) ?_
      refine va_get (D := E.1) (ci := 10) (v := .int sa) (C := RX10) (T := TX10) (N := 5) hx hb hts inX10 hown hK hP 0 rfl rfl 2 (by decide) fl15 (fun _ h9 => h9) rfl dX10_readNumber_24 ?_
      refine lv_isub hx hb dX10_readNumber_27 ?_
      refine lv_topi (fun x_2 ex_2 => ?_)
      refine lv_iconst (v := 5) hx hb dX10_readNumber_28 (by decide) ?_
      refine lv_icmp_ge (tgt := 88) hx hb dX10_readNumber_29 (by decide) (fun c_3 => ?_) (fun c_3 => ?_)
      · exact kk bv nv _ _ _  (hP.sub [0, 1, 2] rfl) (hD.sub [0, 1, 2] (by decide) rfl) hS (lv_sub hl [0] rfl)
      · refine lv_aload_n hx hb dX10_readNumber_32 rfl (lv_at hl 0 rfl) ?_
        refine va_get (D := E.1) (ci := 10) (v := .ref tp) (C := RX10) (T := TX10) (N := 5) hx hb hts inX10 hown hK hP 0 rfl rfl 0 (by decide) fl24 (fun _ h9 => h9) rfl dX10_readNumber_33 ?_
        refine lv_aload_n hx hb dX10_readNumber_36 rfl (lv_at hl 0 rfl) ?_
        refine va_get (D := E.1) (ci := 10) (v := .int bv) (C := RX10) (T := TX10) (N := 5) hx hb hts inX10 hown hK hP 0 rfl rfl 4 (by decide) fl21 (fun _ h9 => h9) rfl dX10_readNumber_37 ?_
        have hPc := hP.sub (ws' := [(tp, .inr (9, [.ref by_, .int le])), (by_, .inl (E.2.1 0, 800, .inl f))]) [1, 2] rfl
        have hDc := hD.sub (ws' := [(tp, .inr (9, [.ref by_, .int le])), (by_, .inl (E.2.1 0, 800, .inl f))]) [1, 2] (by decide) rfl
        have hFc := va_free (wc := [(tp, .inr (9, [.ref by_, .int le])), (by_, .inl (E.2.1 0, 800, .inl f))]) hD hS hA [1, 2] rfl
        refine va_calli (va_runV (As := [.int bv]) (rest := []) ⟨hx, hb, hml, hown, hts⟩ (c_X9_byteAt l E tp by_ le bv f H.size ) (cwV 1 hts gX10_readNumber_X9_byteAt rfl rfl rfl hdV_X9_byteAt ⟨Nat.le_of_ble_eq_true rfl, Nat.le_of_ble_eq_true rfl⟩) ⟨pcW_blind, va_recv hK hPc (ci := 9) (q0 := 0) rfl rfl, (pcW_pre hPc hkn hDc hst hS hFc)⟩ rfl rfl hl.1 rfl (lv_room (Nat.le_of_ble_eq_true rfl)) dX10_readNumber_40 ⟨Nat.le_of_ble_eq_true rfl, Nat.le_of_ble_eq_true rfl⟩) hS (fun q _ h => hFc q h) hFc (fun r_4 u t H1 locs ht hvm hw_5 hB hz1 hk1 hS => ?_)
        obtain ⟨hP1, hD1⟩ := hB
        rw [ht] at hP1
        try dsimp only at hw_5
        obtain ⟨hP, hD⟩ := va_join (wr := [(h0, .inr (10, [.ref tp, .int kd, .int sa, .int nv, .int bv]))]) (w1 := [(tp, .inr (9, [.ref by_, .int le])), (by_, .inl (E.2.1 0, 800, .inl f))]) hP hD [1, 2] [0] rfl rfl (by decide) (by decide) hk1 hFc hP1 hD1
        generalize H1 = H at hP hS ⊢
        have hP : va_P E.1 vwCl [(h0, .inr (10, [.ref tp, .int kd, .int sa, .int nv, .int bv])), (tp, .inr (9, [.ref by_, .int le])), (by_, .inl (E.2.1 0, 800, .inl f))] H := hP
        have hD : va_D A [(h0, .inr (10, [.ref tp, .int kd, .int sa, .int nv, .int bv])), (tp, .inr (9, [.ref by_, .int le])), (by_, .inl (E.2.1 0, 800, .inl f))] := hD
        have hPc := hP.sub (ws' := []) [] rfl
        have hDc := hD.sub (ws' := []) [] (by decide) rfl
        have hFc := va_free (wc := []) hD hS hA [] rfl
        refine va_calli (va_runS (As := [.int r_4]) (rest := []) ⟨hx, hb, hml, hown, hts⟩ (c_X10_isDigit l E r_4 H.size ) (va_cwS 1 hts gX10_readNumber_X10_isDigit rfl rfl rfl hdS_X10_isDigit ⟨Nat.le_of_ble_eq_true rfl, Nat.le_of_ble_eq_true rfl⟩) ⟨pcW_blind, (pcW_pre hPc hkn hDc hst hS hFc)⟩ rfl rfl hl.1 rfl (lv_room (Nat.le_of_ble_eq_true rfl)) dX10_readNumber_43 ⟨Nat.le_of_ble_eq_true rfl, Nat.le_of_ble_eq_true rfl⟩) hS (fun q _ h => hFc q h) hFc (fun r_6 u t H1 locs ht hvm hw_7 hB hz1 hk1 hS => ?_)
        obtain ⟨hP1, hD1⟩ := hB
        rw [ht] at hP1
        try dsimp only at hw_7
        obtain ⟨hP, hD⟩ := va_join (wr := [(h0, .inr (10, [.ref tp, .int kd, .int sa, .int nv, .int bv])), (tp, .inr (9, [.ref by_, .int le])), (by_, .inl (E.2.1 0, 800, .inl f))]) (w1 := []) hP hD [] [0, 1, 2] rfl rfl (by decide) (by decide) hk1 hFc hP1 hD1
        generalize H1 = H at hP hS ⊢
        have hP : va_P E.1 vwCl [(h0, .inr (10, [.ref tp, .int kd, .int sa, .int nv, .int bv])), (tp, .inr (9, [.ref by_, .int le])), (by_, .inl (E.2.1 0, 800, .inl f))] H := hP
        have hD : va_D A [(h0, .inr (10, [.ref tp, .int kd, .int sa, .int nv, .int bv])), (tp, .inr (9, [.ref by_, .int le])), (by_, .inl (E.2.1 0, 800, .inl f))] := hD
        refine lv_if_eq (tgt := 88) hx hb dX10_readNumber_46 (by decide) (fun c_8 => ?_) (fun c_8 => ?_)
        · exact kk bv nv _ _ _  (hP.sub [0, 1, 2] rfl) (hD.sub [0, 1, 2] (by decide) rfl) hS (lv_sub hl [0] rfl)
        · refine lv_aload_n hx hb dX10_readNumber_49 rfl (lv_at hl 0 rfl) ?_
          refine lv_bipush (v := 10) hx hb dX10_readNumber_50 (by decide) ?_
          refine lv_aload_n hx hb dX10_readNumber_52 rfl (lv_at hl 0 rfl) ?_
          refine va_get (D := E.1) (ci := 10) (v := .int nv) (C := RX10) (T := TX10) (N := 5) hx hb hts inX10 hown hK hP 0 rfl rfl 3 (by decide) fl18 (fun _ h9 => h9) rfl dX10_readNumber_53 ?_
          refine lv_imul hx hb dX10_readNumber_56 ?_
          refine lv_topi (fun x_9 ex_9 => ?_)
          refine lv_aload_n hx hb dX10_readNumber_57 rfl (lv_at hl 0 rfl) ?_
          refine va_get (D := E.1) (ci := 10) (v := .ref tp) (C := RX10) (T := TX10) (N := 5) hx hb hts inX10 hown hK hP 0 rfl rfl 0 (by decide) fl24 (fun _ h9 => h9) rfl dX10_readNumber_58 ?_
          refine lv_aload_n hx hb dX10_readNumber_61 rfl (lv_at hl 0 rfl) ?_
          refine va_get (D := E.1) (ci := 10) (v := .int bv) (C := RX10) (T := TX10) (N := 5) hx hb hts inX10 hown hK hP 0 rfl rfl 4 (by decide) fl21 (fun _ h9 => h9) rfl dX10_readNumber_62 ?_
          have hPc := hP.sub (ws' := [(tp, .inr (9, [.ref by_, .int le])), (by_, .inl (E.2.1 0, 800, .inl f))]) [1, 2] rfl
          have hDc := hD.sub (ws' := [(tp, .inr (9, [.ref by_, .int le])), (by_, .inl (E.2.1 0, 800, .inl f))]) [1, 2] (by decide) rfl
          have hFc := va_free (wc := [(tp, .inr (9, [.ref by_, .int le])), (by_, .inl (E.2.1 0, 800, .inl f))]) hD hS hA [1, 2] rfl
          refine va_calli (va_runV (As := [.int bv]) (rest := [.int x_9, .ref h0]) ⟨hx, hb, hml, hown, hts⟩ (c_X9_byteAt l E tp by_ le bv f H.size ) (cwV 1 hts gX10_readNumber_X9_byteAt rfl rfl rfl hdV_X9_byteAt ⟨Nat.le_of_ble_eq_true rfl, Nat.le_of_ble_eq_true rfl⟩) ⟨pcW_blind, va_recv hK hPc (ci := 9) (q0 := 0) rfl rfl, (pcW_pre hPc hkn hDc hst hS hFc)⟩ rfl rfl hl.1 rfl (lv_room (Nat.le_of_ble_eq_true rfl)) dX10_readNumber_65 ⟨Nat.le_of_ble_eq_true rfl, Nat.le_of_ble_eq_true rfl⟩) hS (fun q _ h => hFc q h) hFc (fun r_10 u t H1 locs ht hvm hw_11 hB hz1 hk1 hS => ?_)
          obtain ⟨hP1, hD1⟩ := hB
          rw [ht] at hP1
          try dsimp only at hw_11
          obtain ⟨hP, hD⟩ := va_join (wr := [(h0, .inr (10, [.ref tp, .int kd, .int sa, .int nv, .int bv]))]) (w1 := [(tp, .inr (9, [.ref by_, .int le])), (by_, .inl (E.2.1 0, 800, .inl f))]) hP hD [1, 2] [0] rfl rfl (by decide) (by decide) hk1 hFc hP1 hD1
          generalize H1 = H at hP hS ⊢
          have hP : va_P E.1 vwCl [(h0, .inr (10, [.ref tp, .int kd, .int sa, .int nv, .int bv])), (tp, .inr (9, [.ref by_, .int le])), (by_, .inl (E.2.1 0, 800, .inl f))] H := hP
          have hD : va_D A [(h0, .inr (10, [.ref tp, .int kd, .int sa, .int nv, .int bv])), (tp, .inr (9, [.ref by_, .int le])), (by_, .inl (E.2.1 0, 800, .inl f))] := hD
          refine lv_iadd hx hb dX10_readNumber_68 ?_
          refine lv_topi (fun x_12 ex_12 => ?_)
          refine lv_bipush (v := 48) hx hb dX10_readNumber_69 (by decide) ?_
          refine lv_isub hx hb dX10_readNumber_71 ?_
          refine lv_topi (fun x_13 ex_13 => ?_)
          refine va_put (D := E.1) (ci := 10) (v := .int x_13) (ty := .int) (C := RX10) (T := TX10) (N := 5) hx hb hts inX10 tyX10 tyX10_ok nmX10 hown hK hP hD hS 0 rfl rfl 3 (by decide) fl18 (fun _ h9 => h9) rfl (by decide +kernel) rfl rfl (Nat.le_of_ble_eq_true rfl) dX10_readNumber_72 (fun H locs hP hD hS => ?_)
          have hP : va_P E.1 vwCl [(h0, .inr (10, [.ref tp, .int kd, .int sa, .int x_13, .int bv])), (tp, .inr (9, [.ref by_, .int le])), (by_, .inl (E.2.1 0, 800, .inl f))] H := hP
          have hD : va_D A [(h0, .inr (10, [.ref tp, .int kd, .int sa, .int x_13, .int bv])), (tp, .inr (9, [.ref by_, .int le])), (by_, .inl (E.2.1 0, 800, .inl f))] := hD
          refine lv_aload_n hx hb dX10_readNumber_75 rfl (lv_at hl 0 rfl) ?_
          refine lv_dup hx hb dX10_readNumber_76 rfl ?_
          refine va_get (D := E.1) (ci := 10) (v := .int bv) (C := RX10) (T := TX10) (N := 5) hx hb hts inX10 hown hK hP 0 rfl rfl 4 (by decide) fl21 (fun _ h9 => h9) rfl dX10_readNumber_77 ?_
          refine lv_iconst (v := 1) hx hb dX10_readNumber_80 (by decide) ?_
          refine lv_iadd hx hb dX10_readNumber_81 ?_
          refine lv_topi (fun x_14 ex_14 => ?_)
          refine va_put (D := E.1) (ci := 10) (v := .int x_14) (ty := .int) (C := RX10) (T := TX10) (N := 5) hx hb hts inX10 tyX10 tyX10_ok nmX10 hown hK hP hD hS 0 rfl rfl 4 (by decide) fl21 (fun _ h9 => h9) rfl (by decide +kernel) rfl rfl (Nat.le_of_ble_eq_true rfl) dX10_readNumber_82 (fun H locs hP hD hS => ?_)
          have hP : va_P E.1 vwCl [(h0, .inr (10, [.ref tp, .int kd, .int sa, .int x_13, .int x_14])), (tp, .inr (9, [.ref by_, .int le])), (by_, .inl (E.2.1 0, 800, .inl f))] H := hP
          have hD : va_D A [(h0, .inr (10, [.ref tp, .int kd, .int sa, .int x_13, .int x_14])), (tp, .inr (9, [.ref by_, .int le])), (by_, .inl (E.2.1 0, 800, .inl f))] := hD
          refine lv_goto (tgt := 5) hx hb dX10_readNumber_85 (by decide) ?_
          exact ih x_14 x_13 _ _ _ (by
                  have := toInt_s c_1
                  rw [ex_14, this]
                  have h2 := (ii_lt _ _).mp (Int32.not_le.mp c_1)
                  omega) (hP.sub [0, 1, 2] rfl) (hD.sub [0, 1, 2] (by decide) rfl) hS (lv_sub hl [0] rfl)
set_option maxHeartbeats 4000000 in
set_option maxRecDepth 100000 in
theorem c_X10_readNumber (l : Launch) (E : vE) (h0 : Nat) (tp : Nat) (by_ : Nat) (kd : Int32) (sa : Int32) (nu : Int32) (be : Int32) (le : Int32) (f : Nat → Int32) (sz : Nat) : Met l yX10_readNumber wsX10_readNumber ({ frames := 1, cells := 0, slots := 0, locals := 21 }) (pcW E [.ref h0] sz [(h0, .inr (10, [.ref tp, .int kd, .int sa, .int nu, .int be])), (tp, .inr (9, [.ref by_, .int le])), (by_, .inl (E.2.1 0, 800, .inl f))]) (va_Qv (fun (u : Int32 × Int32 × Int32) => match u with | (kd2, nu2, be2) => True) (fun (u : Int32 × Int32 × Int32) (t : State) => match u with | (kd2, nu2, be2) => wB E (va_A [(h0, .inr (10, [.ref tp, .int kd, .int sa, .int nu, .int be])), (tp, .inr (9, [.ref by_, .int le])), (by_, .inl (E.2.1 0, 800, .inl f))] sz) [(h0, .inr (10, [.ref tp, .int kd2, .int sa, .int nu2, .int be2])), (tp, .inr (9, [.ref by_, .int le])), (by_, .inl (E.2.1 0, 800, .inl f))] t) (va_A [(h0, .inr (10, [.ref tp, .int kd, .int sa, .int nu, .int be])), (tp, .inr (9, [.ref by_, .int le])), (by_, .inl (E.2.1 0, 800, .inl f))] sz)) 0 0 (va_A [(h0, .inr (10, [.ref tp, .int kd, .int sa, .int nu, .int be])), (tp, .inr (9, [.ref by_, .int le])), (by_, .inl (E.2.1 0, 800, .inl f))] sz) := by
  refine Met.ofW (cc := cX10_readNumber) (maxL := 1) (ret := none) (by decide) rfl ?_
  intro p e s m args below meth c s₁ B hml hv
  obtain ⟨rfl, hsz, hP, hkn, hD0, hst⟩ := hv
  have hx := B.exec
  have hb := B.bytes
  have hr := B.returns
  have hts := atoms_spec (ws := wsX10_readNumber) B.pre
  have hown : s.vm.findClass RX10 = some m.cls := findClass_of_methodNamed B.named
  have hlocks := B.notSynchronized
  subst hsz
  have hD := hD0.self (sz := s.heap.size)
  have hK := hkn.1
  have hAO := hkn.2.2.1
  generalize hAe : va_A [(h0, .inr (10, [.ref tp, .int kd, .int sa, .int nu, .int be])), (tp, .inr (9, [.ref by_, .int le])), (by_, .inl (E.2.1 0, 800, .inl f))] s.heap.size = A at hD hst ⊢
  have hA : ∀ q : Nat, s.heap.size ≤ q → A q := fun q h => by rw [← hAe]; exact Or.inr h
  have hS : va_S A s.heap s.heap [] := va_S.rf
  have hP : va_P E.1 vwCl [(h0, .inr (10, [.ref tp, .int kd, .int sa, .int nu, .int be])), (tp, .inr (9, [.ref by_, .int le])), (by_, .inl (E.2.1 0, 800, .inl f))] s.heap := hP
  have hl := lv_entry ([.ref h0]) (n := 1) (Nat.le_of_ble_eq_true rfl)
  rw [lg_entry_eq]
  generalize (lg_sl ([.ref h0]) ++ List.replicate (1 - (lg_sl ([.ref h0])).length) Slot.unset).toArray = ls at hl ⊢
  have hl : lv_has ls 1 [(0, .ref h0)] := hl
  have fl11 := hts (.fieldLink RX10 11 "BoatsHome$Tokens" "kind" "I") (by first | exact List.mem_of_getElem? (i := 6) rfl | decide +kernel)
  have fl15 := hts (.fieldLink RX10 15 "BoatsHome$Tokens" "start" "I") (by first | exact List.mem_of_getElem? (i := 5) rfl | decide +kernel)
  have fl18 := hts (.fieldLink RX10 18 "BoatsHome$Tokens" "number" "I") (by first | exact List.mem_of_getElem? (i := 1) rfl | decide +kernel)
  have fl21 := hts (.fieldLink RX10 21 "BoatsHome$Tokens" "behind" "I") (by first | exact List.mem_of_getElem? (i := 2) rfl | decide +kernel)
  have fl24 := hts (.fieldLink RX10 24 "BoatsHome$Tokens" "tape" "LBoatsHome$Tape;") (by first | exact List.mem_of_getElem? (i := 3) rfl | decide +kernel)
  have fl63 := hts (.fieldLink RX10 63 "BoatsHome$Tape" "length" "I") (by first | exact List.mem_of_getElem? (i := 4) rfl | decide +kernel)
  have inX10 : ∀ w ∈ u_ws RX10 TX10 5, w ∈ wsX10_readNumber := by first | exact fun w h9 => (List.mem_cons_of_mem _ (List.mem_append_left _ (List.mem_append_right _ h9))) | decide +kernel
  have inX9 : ∀ w ∈ u_ws RX9 TX9 2, w ∈ wsX10_readNumber := by first | exact fun w h9 => (List.mem_cons_of_mem _ (List.mem_append_right _ h9)) | decide +kernel
  refine lv_aload_n hx hb dX10_readNumber_0 rfl (lv_at hl 0 rfl) ?_
  refine lv_iconst (v := 0) hx hb dX10_readNumber_1 (by decide) ?_
  refine va_put (D := E.1) (ci := 10) (v := .int 0) (ty := .int) (C := RX10) (T := TX10) (N := 5) hx hb hts inX10 tyX10 tyX10_ok nmX10 hown hK hP hD hS 0 rfl rfl 3 (by decide) fl18 (fun _ h9 => h9) rfl (by decide +kernel) rfl rfl (Nat.le_of_ble_eq_true rfl) dX10_readNumber_2 (fun H locs hP hD hS => ?_)
  have hP : va_P E.1 vwCl [(h0, .inr (10, [.ref tp, .int kd, .int sa, .int 0, .int be])), (tp, .inr (9, [.ref by_, .int le])), (by_, .inl (E.2.1 0, 800, .inl f))] H := hP
  have hD : va_D A [(h0, .inr (10, [.ref tp, .int kd, .int sa, .int 0, .int be])), (tp, .inr (9, [.ref by_, .int le])), (by_, .inl (E.2.1 0, 800, .inl f))] := hD
  have hPl := hP.sub (ws' := [(h0, .inr (10, [.ref tp, .int kd, .int sa, .int 0, .int be])), (tp, .inr (9, [.ref by_, .int le])), (by_, .inl (E.2.1 0, 800, .inl f))]) [0, 1, 2] rfl
  have hDl := hD.sub (ws' := [(h0, .inr (10, [.ref tp, .int kd, .int sa, .int 0, .int be])), (tp, .inr (9, [.ref by_, .int le])), (by_, .inl (E.2.1 0, 800, .inl f))]) [0, 1, 2] (by decide) rfl
  refine lg_num E h0 tp by_ kd sa le f hx hb hml hown hts hkn hst hA  (fun n_1 n_2 H locs ls  hP hD hS hl => ?_) ((le).toInt - (be : Int32).toInt).toNat.succ be 0 _ _ _ (Nat.lt_succ_self _) hPl hDl hS (lv_sub hl [0] rfl)
  have hP : va_P E.1 vwCl [(h0, .inr (10, [.ref tp, .int kd, .int sa, .int n_2, .int n_1])), (tp, .inr (9, [.ref by_, .int le])), (by_, .inl (E.2.1 0, 800, .inl f))] H := hP
  have hD : va_D A [(h0, .inr (10, [.ref tp, .int kd, .int sa, .int n_2, .int n_1])), (tp, .inr (9, [.ref by_, .int le])), (by_, .inl (E.2.1 0, 800, .inl f))] := hD
  refine lv_aload_n hx hb dX10_readNumber_88 rfl (lv_at hl 0 rfl) ?_
  refine lv_aload_n hx hb dX10_readNumber_89 rfl (lv_at hl 0 rfl) ?_
  refine va_get (D := E.1) (ci := 10) (v := .int n_1) (C := RX10) (T := TX10) (N := 5) hx hb hts inX10 hown hK hP 0 rfl rfl 4 (by decide) fl21 (fun _ h9 => h9) rfl dX10_readNumber_90 ?_
  refine lv_aload_n hx hb dX10_readNumber_93 rfl (lv_at hl 0 rfl) ?_
  refine va_get (D := E.1) (ci := 10) (v := .int sa) (C := RX10) (T := TX10) (N := 5) hx hb hts inX10 hown hK hP 0 rfl rfl 2 (by decide) fl15 (fun _ h9 => h9) rfl dX10_readNumber_94 ?_
  refine lv_isub hx hb dX10_readNumber_97 ?_
  refine lv_topi (fun x_3 ex_3 => ?_)
  refine lv_iconst (v := 4) hx hb dX10_readNumber_98 (by decide) ?_
  refine lv_icmp_le (tgt := 106) hx hb dX10_readNumber_99 (by decide) (fun c_4 => ?_) (fun c_4 => ?_)
  · refine lv_iconst (v := 2) hx hb dX10_readNumber_106 (by decide) ?_
    refine va_put (D := E.1) (ci := 10) (v := .int 2) (ty := .int) (C := RX10) (T := TX10) (N := 5) hx hb hts inX10 tyX10 tyX10_ok nmX10 hown hK hP hD hS 0 rfl rfl 1 (by decide) fl11 (fun _ h9 => h9) rfl (by decide +kernel) rfl rfl (Nat.le_of_ble_eq_true rfl) dX10_readNumber_107 (fun H locs hP hD hS => ?_)
    have hP : va_P E.1 vwCl [(h0, .inr (10, [.ref tp, .int 2, .int sa, .int n_2, .int n_1])), (tp, .inr (9, [.ref by_, .int le])), (by_, .inl (E.2.1 0, 800, .inl f))] H := hP
    have hD : va_D A [(h0, .inr (10, [.ref tp, .int 2, .int sa, .int n_2, .int n_1])), (tp, .inr (9, [.ref by_, .int le])), (by_, .inl (E.2.1 0, 800, .inl f))] := hD
    have hP9 := hP.sub (ws' := [(h0, .inr (10, [.ref tp, .int 2, .int sa, .int n_2, .int n_1])), (tp, .inr (9, [.ref by_, .int le])), (by_, .inl (E.2.1 0, 800, .inl f))]) [0, 1, 2] rfl
    have hD9 := hD.sub (ws' := [(h0, .inr (10, [.ref tp, .int 2, .int sa, .int n_2, .int n_1])), (tp, .inr (9, [.ref by_, .int le])), (by_, .inl (E.2.1 0, 800, .inl f))]) [0, 1, 2] (by decide) rfl
    exact W.vret hx hb hr (fun t ht hW => ⟨⟨(2, n_2, n_1), rfl, trivial, by rw [ht]; exact hP9, hD9⟩, hS.F ht⟩) hS.2.2 dX10_readNumber_110
  · refine lv_iconst (v := 4) hx hb dX10_readNumber_102 (by decide) ?_
    refine lv_goto (tgt := 107) hx hb dX10_readNumber_103 (by decide) ?_
    refine va_put (D := E.1) (ci := 10) (v := .int 4) (ty := .int) (C := RX10) (T := TX10) (N := 5) hx hb hts inX10 tyX10 tyX10_ok nmX10 hown hK hP hD hS 0 rfl rfl 1 (by decide) fl11 (fun _ h9 => h9) rfl (by decide +kernel) rfl rfl (Nat.le_of_ble_eq_true rfl) dX10_readNumber_107 (fun H locs hP hD hS => ?_)
    have hP : va_P E.1 vwCl [(h0, .inr (10, [.ref tp, .int 4, .int sa, .int n_2, .int n_1])), (tp, .inr (9, [.ref by_, .int le])), (by_, .inl (E.2.1 0, 800, .inl f))] H := hP
    have hD : va_D A [(h0, .inr (10, [.ref tp, .int 4, .int sa, .int n_2, .int n_1])), (tp, .inr (9, [.ref by_, .int le])), (by_, .inl (E.2.1 0, 800, .inl f))] := hD
    have hP9 := hP.sub (ws' := [(h0, .inr (10, [.ref tp, .int 4, .int sa, .int n_2, .int n_1])), (tp, .inr (9, [.ref by_, .int le])), (by_, .inl (E.2.1 0, 800, .inl f))]) [0, 1, 2] rfl
    have hD9 := hD.sub (ws' := [(h0, .inr (10, [.ref tp, .int 4, .int sa, .int n_2, .int n_1])), (tp, .inr (9, [.ref by_, .int le])), (by_, .inl (E.2.1 0, 800, .inl f))]) [0, 1, 2] (by decide) rfl
    exact W.vret hx hb hr (fun t ht hW => ⟨⟨(4, n_2, n_1), rfl, trivial, by rw [ht]; exact hP9, hD9⟩, hS.F ht⟩) hS.2.2 dX10_readNumber_110
set_option maxHeartbeats 4000000 in
set_option maxRecDepth 100000 in
theorem c_X10_advance (l : Launch) (E : vE) (h0 : Nat) (tp : Nat) (by_ : Nat) (kd : Int32) (sa : Int32) (nu : Int32) (be : Int32) (le : Int32) (f : Nat → Int32) (sz : Nat) : Met l yX10_advance wsX10_advance ({ frames := 2, cells := 0, slots := 0, locals := 41 }) (pcW E [.ref h0] sz [(h0, .inr (10, [.ref tp, .int kd, .int sa, .int nu, .int be])), (tp, .inr (9, [.ref by_, .int le])), (by_, .inl (E.2.1 0, 800, .inl f))]) (va_Qv (fun (u : Int32 × Int32 × Int32 × Int32) => match u with | (kd2, sa2, nu2, be2) => True) (fun (u : Int32 × Int32 × Int32 × Int32) (t : State) => match u with | (kd2, sa2, nu2, be2) => wB E (va_A [(h0, .inr (10, [.ref tp, .int kd, .int sa, .int nu, .int be])), (tp, .inr (9, [.ref by_, .int le])), (by_, .inl (E.2.1 0, 800, .inl f))] sz) [(h0, .inr (10, [.ref tp, .int kd2, .int sa2, .int nu2, .int be2])), (tp, .inr (9, [.ref by_, .int le])), (by_, .inl (E.2.1 0, 800, .inl f))] t) (va_A [(h0, .inr (10, [.ref tp, .int kd, .int sa, .int nu, .int be])), (tp, .inr (9, [.ref by_, .int le])), (by_, .inl (E.2.1 0, 800, .inl f))] sz)) 0 0 (va_A [(h0, .inr (10, [.ref tp, .int kd, .int sa, .int nu, .int be])), (tp, .inr (9, [.ref by_, .int le])), (by_, .inl (E.2.1 0, 800, .inl f))] sz) := by
  refine Met.ofW (cc := cX10_advance) (maxL := 2) (ret := none) (by decide) rfl ?_
  intro p e s m args below meth c s₁ B hml hv
  obtain ⟨rfl, hsz, hP, hkn, hD0, hst⟩ := hv
  have hx := B.exec
  have hb := B.bytes
  have hr := B.returns
  have hts := atoms_spec (ws := wsX10_advance) B.pre
  have hown : s.vm.findClass RX10 = some m.cls := findClass_of_methodNamed B.named
  have hlocks := B.notSynchronized
  subst hsz
  have hD := hD0.self (sz := s.heap.size)
  have hK := hkn.1
  have hAO := hkn.2.2.1
  generalize hAe : va_A [(h0, .inr (10, [.ref tp, .int kd, .int sa, .int nu, .int be])), (tp, .inr (9, [.ref by_, .int le])), (by_, .inl (E.2.1 0, 800, .inl f))] s.heap.size = A at hD hst ⊢
  have hA : ∀ q : Nat, s.heap.size ≤ q → A q := fun q h => by rw [← hAe]; exact Or.inr h
  have hS : va_S A s.heap s.heap [] := va_S.rf
  have hP : va_P E.1 vwCl [(h0, .inr (10, [.ref tp, .int kd, .int sa, .int nu, .int be])), (tp, .inr (9, [.ref by_, .int le])), (by_, .inl (E.2.1 0, 800, .inl f))] s.heap := hP
  have hl := lv_entry ([.ref h0]) (n := 2) (Nat.le_of_ble_eq_true rfl)
  rw [lg_entry_eq]
  generalize (lg_sl ([.ref h0]) ++ List.replicate (2 - (lg_sl ([.ref h0])).length) Slot.unset).toArray = ls at hl ⊢
  have hl : lv_has ls 2 [(0, .ref h0)] := hl
  have fl11 := hts (.fieldLink RX10 11 "BoatsHome$Tokens" "kind" "I") (by first | exact List.mem_of_getElem? (i := 4) rfl | decide +kernel)
  have fl15 := hts (.fieldLink RX10 15 "BoatsHome$Tokens" "start" "I") (by first | exact List.mem_of_getElem? (i := 2) rfl | decide +kernel)
  have fl21 := hts (.fieldLink RX10 21 "BoatsHome$Tokens" "behind" "I") (by first | exact List.mem_of_getElem? (i := 1) rfl | decide +kernel)
  have fl24 := hts (.fieldLink RX10 24 "BoatsHome$Tokens" "tape" "LBoatsHome$Tape;") (by first | exact List.mem_of_getElem? (i := 3) rfl | decide +kernel)
  have inX10 : ∀ w ∈ u_ws RX10 TX10 5, w ∈ wsX10_advance := by first | exact fun w h9 => (List.mem_cons_of_mem _ (List.mem_append_left _ (List.mem_append_right _ h9))) | decide +kernel
  refine lv_aload_n hx hb dX10_advance_0 rfl (lv_at hl 0 rfl) ?_
  have hPc := hP.sub (ws' := [(h0, .inr (10, [.ref tp, .int kd, .int sa, .int nu, .int be])), (tp, .inr (9, [.ref by_, .int le])), (by_, .inl (E.2.1 0, 800, .inl f))]) [0, 1, 2] rfl
  have hDc := hD.sub (ws' := [(h0, .inr (10, [.ref tp, .int kd, .int sa, .int nu, .int be])), (tp, .inr (9, [.ref by_, .int le])), (by_, .inl (E.2.1 0, 800, .inl f))]) [0, 1, 2] (by decide) rfl
  have hFc := va_free (wc := [(h0, .inr (10, [.ref tp, .int kd, .int sa, .int nu, .int be])), (tp, .inr (9, [.ref by_, .int le])), (by_, .inl (E.2.1 0, 800, .inl f))]) hD hS hA [0, 1, 2] rfl
  refine va_callv (va_runV (As := []) (rest := []) ⟨hx, hb, hml, hown, hts⟩ (c_X10_skipBlanks l E h0 tp by_ kd sa nu be le f s.heap.size ) (cwV 0 hts gX10_advance_X10_skipBlanks rfl rfl rfl hdV_X10_skipBlanks ⟨Nat.le_of_ble_eq_true rfl, Nat.le_of_ble_eq_true rfl⟩) ⟨pcW_blind, va_recv hK hPc (ci := 10) (q0 := 0) rfl rfl, (pcW_pre hPc hkn hDc hst hS hFc)⟩ rfl rfl hl.1 rfl (lv_room (Nat.le_of_ble_eq_true rfl)) dX10_advance_1 ⟨Nat.le_of_ble_eq_true rfl, Nat.le_of_ble_eq_true rfl⟩) hS (fun q _ h => hFc q h) hFc (fun u t H1 locs ht hvm hw_2 hB hz1 hk1 hS => ?_)
  obtain ⟨u_3, rfl⟩ : ∃ z, z = u := ⟨_, rfl⟩
  obtain ⟨hP1, hD1⟩ := hB
  rw [ht] at hP1
  try dsimp only at hw_2
  obtain ⟨hP, hD⟩ := va_join (wr := []) (w1 := [(h0, .inr (10, [.ref tp, .int kd, .int sa, .int nu, .int u_3])), (tp, .inr (9, [.ref by_, .int le])), (by_, .inl (E.2.1 0, 800, .inl f))]) hP hD [0, 1, 2] [] rfl rfl (by decide) (by decide) hk1 hFc hP1 hD1
  generalize H1 = H at hP hS ⊢
  have hP : va_P E.1 vwCl [(h0, .inr (10, [.ref tp, .int kd, .int sa, .int nu, .int u_3])), (tp, .inr (9, [.ref by_, .int le])), (by_, .inl (E.2.1 0, 800, .inl f))] H := hP
  have hD : va_D A [(h0, .inr (10, [.ref tp, .int kd, .int sa, .int nu, .int u_3])), (tp, .inr (9, [.ref by_, .int le])), (by_, .inl (E.2.1 0, 800, .inl f))] := hD
  refine lv_aload_n hx hb dX10_advance_4 rfl (lv_at hl 0 rfl) ?_
  refine lv_aload_n hx hb dX10_advance_5 rfl (lv_at hl 0 rfl) ?_
  refine va_get (D := E.1) (ci := 10) (v := .int u_3) (C := RX10) (T := TX10) (N := 5) hx hb hts inX10 hown hK hP 0 rfl rfl 4 (by decide) fl21 (fun _ h9 => h9) rfl dX10_advance_6 ?_
  refine va_put (D := E.1) (ci := 10) (v := .int u_3) (ty := .int) (C := RX10) (T := TX10) (N := 5) hx hb hts inX10 tyX10 tyX10_ok nmX10 hown hK hP hD hS 0 rfl rfl 2 (by decide) fl15 (fun _ h9 => h9) rfl (by decide +kernel) rfl rfl (Nat.le_of_ble_eq_true rfl) dX10_advance_9 (fun H locs hP hD hS => ?_)
  have hP : va_P E.1 vwCl [(h0, .inr (10, [.ref tp, .int kd, .int u_3, .int nu, .int u_3])), (tp, .inr (9, [.ref by_, .int le])), (by_, .inl (E.2.1 0, 800, .inl f))] H := hP
  have hD : va_D A [(h0, .inr (10, [.ref tp, .int kd, .int u_3, .int nu, .int u_3])), (tp, .inr (9, [.ref by_, .int le])), (by_, .inl (E.2.1 0, 800, .inl f))] := hD
  refine lv_aload_n hx hb dX10_advance_12 rfl (lv_at hl 0 rfl) ?_
  refine va_get (D := E.1) (ci := 10) (v := .ref tp) (C := RX10) (T := TX10) (N := 5) hx hb hts inX10 hown hK hP 0 rfl rfl 0 (by decide) fl24 (fun _ h9 => h9) rfl dX10_advance_13 ?_
  refine lv_aload_n hx hb dX10_advance_16 rfl (lv_at hl 0 rfl) ?_
  refine va_get (D := E.1) (ci := 10) (v := .int u_3) (C := RX10) (T := TX10) (N := 5) hx hb hts inX10 hown hK hP 0 rfl rfl 2 (by decide) fl15 (fun _ h9 => h9) rfl dX10_advance_17 ?_
  have hPc := hP.sub (ws' := [(tp, .inr (9, [.ref by_, .int le])), (by_, .inl (E.2.1 0, 800, .inl f))]) [1, 2] rfl
  have hDc := hD.sub (ws' := [(tp, .inr (9, [.ref by_, .int le])), (by_, .inl (E.2.1 0, 800, .inl f))]) [1, 2] (by decide) rfl
  have hFc := va_free (wc := [(tp, .inr (9, [.ref by_, .int le])), (by_, .inl (E.2.1 0, 800, .inl f))]) hD hS hA [1, 2] rfl
  refine va_calli (va_runV (As := [.int u_3]) (rest := []) ⟨hx, hb, hml, hown, hts⟩ (c_X9_byteAt l E tp by_ le u_3 f H.size ) (cwV 1 hts gX10_advance_X9_byteAt rfl rfl rfl hdV_X9_byteAt ⟨Nat.le_of_ble_eq_true rfl, Nat.le_of_ble_eq_true rfl⟩) ⟨pcW_blind, va_recv hK hPc (ci := 9) (q0 := 0) rfl rfl, (pcW_pre hPc hkn hDc hst hS hFc)⟩ rfl rfl hl.1 rfl (lv_room (Nat.le_of_ble_eq_true rfl)) dX10_advance_20 ⟨Nat.le_of_ble_eq_true rfl, Nat.le_of_ble_eq_true rfl⟩) hS (fun q _ h => hFc q h) hFc (fun r_4 u t H1 locs ht hvm hw_5 hB hz1 hk1 hS => ?_)
  obtain ⟨hP1, hD1⟩ := hB
  rw [ht] at hP1
  try dsimp only at hw_5
  obtain ⟨hP, hD⟩ := va_join (wr := [(h0, .inr (10, [.ref tp, .int kd, .int u_3, .int nu, .int u_3]))]) (w1 := [(tp, .inr (9, [.ref by_, .int le])), (by_, .inl (E.2.1 0, 800, .inl f))]) hP hD [1, 2] [0] rfl rfl (by decide) (by decide) hk1 hFc hP1 hD1
  generalize H1 = H at hP hS ⊢
  have hP : va_P E.1 vwCl [(h0, .inr (10, [.ref tp, .int kd, .int u_3, .int nu, .int u_3])), (tp, .inr (9, [.ref by_, .int le])), (by_, .inl (E.2.1 0, 800, .inl f))] H := hP
  have hD : va_D A [(h0, .inr (10, [.ref tp, .int kd, .int u_3, .int nu, .int u_3])), (tp, .inr (9, [.ref by_, .int le])), (by_, .inl (E.2.1 0, 800, .inl f))] := hD
  refine lv_istore_n (lv' := [(1, .int r_4), (0, .ref h0)]) hx hb dX10_advance_23 rfl hl (by decide) rfl (fun ls hl => ?_)
  refine lv_iload_n hx hb dX10_advance_24 rfl (lv_at hl 0 rfl) ?_
  refine lv_iconst (v := (-1)) hx hb dX10_advance_25 (by decide) ?_
  refine lv_icmp_ne (tgt := 37) hx hb dX10_advance_26 (by decide) (fun c_6 => ?_) (fun c_6 => ?_)
  · refine lv_iload_n hx hb dX10_advance_37 rfl (lv_at hl 0 rfl) ?_
    have hPc := hP.sub (ws' := []) [] rfl
    have hDc := hD.sub (ws' := []) [] (by decide) rfl
    have hFc := va_free (wc := []) hD hS hA [] rfl
    refine va_calli (va_runS (As := [.int r_4]) (rest := []) ⟨hx, hb, hml, hown, hts⟩ (c_X10_isLetter l E r_4 H.size ) (va_cwS 1 hts gX10_advance_X10_isLetter rfl rfl rfl hdS_X10_isLetter ⟨Nat.le_of_ble_eq_true rfl, Nat.le_of_ble_eq_true rfl⟩) ⟨pcW_blind, (pcW_pre hPc hkn hDc hst hS hFc)⟩ rfl rfl hl.1 rfl (lv_room (Nat.le_of_ble_eq_true rfl)) dX10_advance_38 ⟨Nat.le_of_ble_eq_true rfl, Nat.le_of_ble_eq_true rfl⟩) hS (fun q _ h => hFc q h) hFc (fun r_7 u t H1 locs ht hvm hw_8 hB hz1 hk1 hS => ?_)
    obtain ⟨hP1, hD1⟩ := hB
    rw [ht] at hP1
    try dsimp only at hw_8
    obtain ⟨hP, hD⟩ := va_join (wr := [(h0, .inr (10, [.ref tp, .int kd, .int u_3, .int nu, .int u_3])), (tp, .inr (9, [.ref by_, .int le])), (by_, .inl (E.2.1 0, 800, .inl f))]) (w1 := []) hP hD [] [0, 1, 2] rfl rfl (by decide) (by decide) hk1 hFc hP1 hD1
    generalize H1 = H at hP hS ⊢
    have hP : va_P E.1 vwCl [(h0, .inr (10, [.ref tp, .int kd, .int u_3, .int nu, .int u_3])), (tp, .inr (9, [.ref by_, .int le])), (by_, .inl (E.2.1 0, 800, .inl f))] H := hP
    have hD : va_D A [(h0, .inr (10, [.ref tp, .int kd, .int u_3, .int nu, .int u_3])), (tp, .inr (9, [.ref by_, .int le])), (by_, .inl (E.2.1 0, 800, .inl f))] := hD
    refine lv_if_eq (tgt := 51) hx hb dX10_advance_41 (by decide) (fun c_9 => ?_) (fun c_9 => ?_)
    · refine lv_iload_n hx hb dX10_advance_51 rfl (lv_at hl 0 rfl) ?_
      have hPc := hP.sub (ws' := []) [] rfl
      have hDc := hD.sub (ws' := []) [] (by decide) rfl
      have hFc := va_free (wc := []) hD hS hA [] rfl
      refine va_calli (va_runS (As := [.int r_4]) (rest := []) ⟨hx, hb, hml, hown, hts⟩ (c_X10_isDigit l E r_4 H.size ) (va_cwS 1 hts gX10_advance_X10_isDigit rfl rfl rfl hdS_X10_isDigit ⟨Nat.le_of_ble_eq_true rfl, Nat.le_of_ble_eq_true rfl⟩) ⟨pcW_blind, (pcW_pre hPc hkn hDc hst hS hFc)⟩ rfl rfl hl.1 rfl (lv_room (Nat.le_of_ble_eq_true rfl)) dX10_advance_52 ⟨Nat.le_of_ble_eq_true rfl, Nat.le_of_ble_eq_true rfl⟩) hS (fun q _ h => hFc q h) hFc (fun r_10 u t H1 locs ht hvm hw_11 hB hz1 hk1 hS => ?_)
      obtain ⟨hP1, hD1⟩ := hB
      rw [ht] at hP1
      try dsimp only at hw_11
      obtain ⟨hP, hD⟩ := va_join (wr := [(h0, .inr (10, [.ref tp, .int kd, .int u_3, .int nu, .int u_3])), (tp, .inr (9, [.ref by_, .int le])), (by_, .inl (E.2.1 0, 800, .inl f))]) (w1 := []) hP hD [] [0, 1, 2] rfl rfl (by decide) (by decide) hk1 hFc hP1 hD1
      generalize H1 = H at hP hS ⊢
      have hP : va_P E.1 vwCl [(h0, .inr (10, [.ref tp, .int kd, .int u_3, .int nu, .int u_3])), (tp, .inr (9, [.ref by_, .int le])), (by_, .inl (E.2.1 0, 800, .inl f))] H := hP
      have hD : va_D A [(h0, .inr (10, [.ref tp, .int kd, .int u_3, .int nu, .int u_3])), (tp, .inr (9, [.ref by_, .int le])), (by_, .inl (E.2.1 0, 800, .inl f))] := hD
      refine lv_if_eq (tgt := 65) hx hb dX10_advance_55 (by decide) (fun c_12 => ?_) (fun c_12 => ?_)
      · refine lv_aload_n hx hb dX10_advance_65 rfl (lv_at hl 1 rfl) ?_
        refine lv_iload_n hx hb dX10_advance_66 rfl (lv_at hl 0 rfl) ?_
        refine lv_bipush (v := 59) hx hb dX10_advance_67 (by decide) ?_
        refine lv_icmp_ne (tgt := 76) hx hb dX10_advance_69 (by decide) (fun c_13 => ?_) (fun c_13 => ?_)
        · refine lv_iconst (v := 4) hx hb dX10_advance_76 (by decide) ?_
          refine va_put (D := E.1) (ci := 10) (v := .int 4) (ty := .int) (C := RX10) (T := TX10) (N := 5) hx hb hts inX10 tyX10 tyX10_ok nmX10 hown hK hP hD hS 0 rfl rfl 1 (by decide) fl11 (fun _ h9 => h9) rfl (by decide +kernel) rfl rfl (Nat.le_of_ble_eq_true rfl) dX10_advance_77 (fun H locs hP hD hS => ?_)
          have hP : va_P E.1 vwCl [(h0, .inr (10, [.ref tp, .int 4, .int u_3, .int nu, .int u_3])), (tp, .inr (9, [.ref by_, .int le])), (by_, .inl (E.2.1 0, 800, .inl f))] H := hP
          have hD : va_D A [(h0, .inr (10, [.ref tp, .int 4, .int u_3, .int nu, .int u_3])), (tp, .inr (9, [.ref by_, .int le])), (by_, .inl (E.2.1 0, 800, .inl f))] := hD
          refine lv_aload_n hx hb dX10_advance_80 rfl (lv_at hl 1 rfl) ?_
          refine lv_aload_n hx hb dX10_advance_81 rfl (lv_at hl 1 rfl) ?_
          refine va_get (D := E.1) (ci := 10) (v := .int u_3) (C := RX10) (T := TX10) (N := 5) hx hb hts inX10 hown hK hP 0 rfl rfl 2 (by decide) fl15 (fun _ h9 => h9) rfl dX10_advance_82 ?_
          refine lv_iconst (v := 1) hx hb dX10_advance_85 (by decide) ?_
          refine lv_iadd hx hb dX10_advance_86 ?_
          refine lv_topi (fun x_14 ex_14 => ?_)
          refine va_put (D := E.1) (ci := 10) (v := .int x_14) (ty := .int) (C := RX10) (T := TX10) (N := 5) hx hb hts inX10 tyX10 tyX10_ok nmX10 hown hK hP hD hS 0 rfl rfl 4 (by decide) fl21 (fun _ h9 => h9) rfl (by decide +kernel) rfl rfl (Nat.le_of_ble_eq_true rfl) dX10_advance_87 (fun H locs hP hD hS => ?_)
          have hP : va_P E.1 vwCl [(h0, .inr (10, [.ref tp, .int 4, .int u_3, .int nu, .int x_14])), (tp, .inr (9, [.ref by_, .int le])), (by_, .inl (E.2.1 0, 800, .inl f))] H := hP
          have hD : va_D A [(h0, .inr (10, [.ref tp, .int 4, .int u_3, .int nu, .int x_14])), (tp, .inr (9, [.ref by_, .int le])), (by_, .inl (E.2.1 0, 800, .inl f))] := hD
          have hP9 := hP.sub (ws' := [(h0, .inr (10, [.ref tp, .int 4, .int u_3, .int nu, .int x_14])), (tp, .inr (9, [.ref by_, .int le])), (by_, .inl (E.2.1 0, 800, .inl f))]) [0, 1, 2] rfl
          have hD9 := hD.sub (ws' := [(h0, .inr (10, [.ref tp, .int 4, .int u_3, .int nu, .int x_14])), (tp, .inr (9, [.ref by_, .int le])), (by_, .inl (E.2.1 0, 800, .inl f))]) [0, 1, 2] (by decide) rfl
          exact W.vret hx hb hr (fun t ht hW => ⟨⟨(4, u_3, nu, x_14), rfl, trivial, by rw [ht]; exact hP9, hD9⟩, hS.F ht⟩) hS.2.2 dX10_advance_90
        · refine lv_iconst (v := 3) hx hb dX10_advance_72 (by decide) ?_
          refine lv_goto (tgt := 77) hx hb dX10_advance_73 (by decide) ?_
          refine va_put (D := E.1) (ci := 10) (v := .int 3) (ty := .int) (C := RX10) (T := TX10) (N := 5) hx hb hts inX10 tyX10 tyX10_ok nmX10 hown hK hP hD hS 0 rfl rfl 1 (by decide) fl11 (fun _ h9 => h9) rfl (by decide +kernel) rfl rfl (Nat.le_of_ble_eq_true rfl) dX10_advance_77 (fun H locs hP hD hS => ?_)
          have hP : va_P E.1 vwCl [(h0, .inr (10, [.ref tp, .int 3, .int u_3, .int nu, .int u_3])), (tp, .inr (9, [.ref by_, .int le])), (by_, .inl (E.2.1 0, 800, .inl f))] H := hP
          have hD : va_D A [(h0, .inr (10, [.ref tp, .int 3, .int u_3, .int nu, .int u_3])), (tp, .inr (9, [.ref by_, .int le])), (by_, .inl (E.2.1 0, 800, .inl f))] := hD
          refine lv_aload_n hx hb dX10_advance_80 rfl (lv_at hl 1 rfl) ?_
          refine lv_aload_n hx hb dX10_advance_81 rfl (lv_at hl 1 rfl) ?_
          refine va_get (D := E.1) (ci := 10) (v := .int u_3) (C := RX10) (T := TX10) (N := 5) hx hb hts inX10 hown hK hP 0 rfl rfl 2 (by decide) fl15 (fun _ h9 => h9) rfl dX10_advance_82 ?_
          refine lv_iconst (v := 1) hx hb dX10_advance_85 (by decide) ?_
          refine lv_iadd hx hb dX10_advance_86 ?_
          refine lv_topi (fun x_15 ex_15 => ?_)
          refine va_put (D := E.1) (ci := 10) (v := .int x_15) (ty := .int) (C := RX10) (T := TX10) (N := 5) hx hb hts inX10 tyX10 tyX10_ok nmX10 hown hK hP hD hS 0 rfl rfl 4 (by decide) fl21 (fun _ h9 => h9) rfl (by decide +kernel) rfl rfl (Nat.le_of_ble_eq_true rfl) dX10_advance_87 (fun H locs hP hD hS => ?_)
          have hP : va_P E.1 vwCl [(h0, .inr (10, [.ref tp, .int 3, .int u_3, .int nu, .int x_15])), (tp, .inr (9, [.ref by_, .int le])), (by_, .inl (E.2.1 0, 800, .inl f))] H := hP
          have hD : va_D A [(h0, .inr (10, [.ref tp, .int 3, .int u_3, .int nu, .int x_15])), (tp, .inr (9, [.ref by_, .int le])), (by_, .inl (E.2.1 0, 800, .inl f))] := hD
          have hP9 := hP.sub (ws' := [(h0, .inr (10, [.ref tp, .int 3, .int u_3, .int nu, .int x_15])), (tp, .inr (9, [.ref by_, .int le])), (by_, .inl (E.2.1 0, 800, .inl f))]) [0, 1, 2] rfl
          have hD9 := hD.sub (ws' := [(h0, .inr (10, [.ref tp, .int 3, .int u_3, .int nu, .int x_15])), (tp, .inr (9, [.ref by_, .int le])), (by_, .inl (E.2.1 0, 800, .inl f))]) [0, 1, 2] (by decide) rfl
          exact W.vret hx hb hr (fun t ht hW => ⟨⟨(3, u_3, nu, x_15), rfl, trivial, by rw [ht]; exact hP9, hD9⟩, hS.F ht⟩) hS.2.2 dX10_advance_90
      · refine lv_aload_n hx hb dX10_advance_58 rfl (lv_at hl 1 rfl) ?_
        have hPc := hP.sub (ws' := [(h0, .inr (10, [.ref tp, .int kd, .int u_3, .int nu, .int u_3])), (tp, .inr (9, [.ref by_, .int le])), (by_, .inl (E.2.1 0, 800, .inl f))]) [0, 1, 2] rfl
        have hDc := hD.sub (ws' := [(h0, .inr (10, [.ref tp, .int kd, .int u_3, .int nu, .int u_3])), (tp, .inr (9, [.ref by_, .int le])), (by_, .inl (E.2.1 0, 800, .inl f))]) [0, 1, 2] (by decide) rfl
        have hFc := va_free (wc := [(h0, .inr (10, [.ref tp, .int kd, .int u_3, .int nu, .int u_3])), (tp, .inr (9, [.ref by_, .int le])), (by_, .inl (E.2.1 0, 800, .inl f))]) hD hS hA [0, 1, 2] rfl
        refine va_callv (va_runV (As := []) (rest := []) ⟨hx, hb, hml, hown, hts⟩ (c_X10_readNumber l E h0 tp by_ kd u_3 nu u_3 le f H.size ) (cwV 0 hts gX10_advance_X10_readNumber rfl rfl rfl hdV_X10_readNumber ⟨Nat.le_of_ble_eq_true rfl, Nat.le_of_ble_eq_true rfl⟩) ⟨pcW_blind, va_recv hK hPc (ci := 10) (q0 := 0) rfl rfl, (pcW_pre hPc hkn hDc hst hS hFc)⟩ rfl rfl hl.1 rfl (lv_room (Nat.le_of_ble_eq_true rfl)) dX10_advance_59 ⟨Nat.le_of_ble_eq_true rfl, Nat.le_of_ble_eq_true rfl⟩) hS (fun q _ h => hFc q h) hFc (fun u t H1 locs ht hvm hw_17 hB hz1 hk1 hS => ?_)
        obtain ⟨u_18, u_19, u_20⟩ := u
        obtain ⟨hP1, hD1⟩ := hB
        rw [ht] at hP1
        try dsimp only at hw_17
        obtain ⟨hP, hD⟩ := va_join (wr := []) (w1 := [(h0, .inr (10, [.ref tp, .int u_18, .int u_3, .int u_19, .int u_20])), (tp, .inr (9, [.ref by_, .int le])), (by_, .inl (E.2.1 0, 800, .inl f))]) hP hD [0, 1, 2] [] rfl rfl (by decide) (by decide) hk1 hFc hP1 hD1
        generalize H1 = H at hP hS ⊢
        have hP : va_P E.1 vwCl [(h0, .inr (10, [.ref tp, .int u_18, .int u_3, .int u_19, .int u_20])), (tp, .inr (9, [.ref by_, .int le])), (by_, .inl (E.2.1 0, 800, .inl f))] H := hP
        have hD : va_D A [(h0, .inr (10, [.ref tp, .int u_18, .int u_3, .int u_19, .int u_20])), (tp, .inr (9, [.ref by_, .int le])), (by_, .inl (E.2.1 0, 800, .inl f))] := hD
        refine lv_goto (tgt := 90) hx hb dX10_advance_62 (by decide) ?_
        have hP9 := hP.sub (ws' := [(h0, .inr (10, [.ref tp, .int u_18, .int u_3, .int u_19, .int u_20])), (tp, .inr (9, [.ref by_, .int le])), (by_, .inl (E.2.1 0, 800, .inl f))]) [0, 1, 2] rfl
        have hD9 := hD.sub (ws' := [(h0, .inr (10, [.ref tp, .int u_18, .int u_3, .int u_19, .int u_20])), (tp, .inr (9, [.ref by_, .int le])), (by_, .inl (E.2.1 0, 800, .inl f))]) [0, 1, 2] (by decide) rfl
        exact W.vret hx hb hr (fun t ht hW => ⟨⟨(u_18, u_3, u_19, u_20), rfl, trivial, by rw [ht]; exact hP9, hD9⟩, hS.F ht⟩) hS.2.2 dX10_advance_90
    · refine lv_aload_n hx hb dX10_advance_44 rfl (lv_at hl 1 rfl) ?_
      have hPc := hP.sub (ws' := [(h0, .inr (10, [.ref tp, .int kd, .int u_3, .int nu, .int u_3])), (tp, .inr (9, [.ref by_, .int le])), (by_, .inl (E.2.1 0, 800, .inl f))]) [0, 1, 2] rfl
      have hDc := hD.sub (ws' := [(h0, .inr (10, [.ref tp, .int kd, .int u_3, .int nu, .int u_3])), (tp, .inr (9, [.ref by_, .int le])), (by_, .inl (E.2.1 0, 800, .inl f))]) [0, 1, 2] (by decide) rfl
      have hFc := va_free (wc := [(h0, .inr (10, [.ref tp, .int kd, .int u_3, .int nu, .int u_3])), (tp, .inr (9, [.ref by_, .int le])), (by_, .inl (E.2.1 0, 800, .inl f))]) hD hS hA [0, 1, 2] rfl
      refine va_callv (va_runV (As := []) (rest := []) ⟨hx, hb, hml, hown, hts⟩ (c_X10_readWord l E h0 tp by_ kd u_3 nu u_3 le f H.size ) (cwV 0 hts gX10_advance_X10_readWord rfl rfl rfl hdV_X10_readWord ⟨Nat.le_of_ble_eq_true rfl, Nat.le_of_ble_eq_true rfl⟩) ⟨pcW_blind, va_recv hK hPc (ci := 10) (q0 := 0) rfl rfl, (pcW_pre hPc hkn hDc hst hS hFc)⟩ rfl rfl hl.1 rfl (lv_room (Nat.le_of_ble_eq_true rfl)) dX10_advance_45 ⟨Nat.le_of_ble_eq_true rfl, Nat.le_of_ble_eq_true rfl⟩) hS (fun q _ h => hFc q h) hFc (fun u t H1 locs ht hvm hw_22 hB hz1 hk1 hS => ?_)
      obtain ⟨u_23, rfl⟩ : ∃ z, z = u := ⟨_, rfl⟩
      obtain ⟨hP1, hD1⟩ := hB
      rw [ht] at hP1
      try dsimp only at hw_22
      obtain ⟨hP, hD⟩ := va_join (wr := []) (w1 := [(h0, .inr (10, [.ref tp, .int 1, .int u_3, .int nu, .int u_23])), (tp, .inr (9, [.ref by_, .int le])), (by_, .inl (E.2.1 0, 800, .inl f))]) hP hD [0, 1, 2] [] rfl rfl (by decide) (by decide) hk1 hFc hP1 hD1
      generalize H1 = H at hP hS ⊢
      have hP : va_P E.1 vwCl [(h0, .inr (10, [.ref tp, .int 1, .int u_3, .int nu, .int u_23])), (tp, .inr (9, [.ref by_, .int le])), (by_, .inl (E.2.1 0, 800, .inl f))] H := hP
      have hD : va_D A [(h0, .inr (10, [.ref tp, .int 1, .int u_3, .int nu, .int u_23])), (tp, .inr (9, [.ref by_, .int le])), (by_, .inl (E.2.1 0, 800, .inl f))] := hD
      refine lv_goto (tgt := 90) hx hb dX10_advance_48 (by decide) ?_
      have hP9 := hP.sub (ws' := [(h0, .inr (10, [.ref tp, .int 1, .int u_3, .int nu, .int u_23])), (tp, .inr (9, [.ref by_, .int le])), (by_, .inl (E.2.1 0, 800, .inl f))]) [0, 1, 2] rfl
      have hD9 := hD.sub (ws' := [(h0, .inr (10, [.ref tp, .int 1, .int u_3, .int nu, .int u_23])), (tp, .inr (9, [.ref by_, .int le])), (by_, .inl (E.2.1 0, 800, .inl f))]) [0, 1, 2] (by decide) rfl
      exact W.vret hx hb hr (fun t ht hW => ⟨⟨(1, u_3, nu, u_23), rfl, trivial, by rw [ht]; exact hP9, hD9⟩, hS.F ht⟩) hS.2.2 dX10_advance_90
  · refine lv_aload_n hx hb dX10_advance_29 rfl (lv_at hl 1 rfl) ?_
    refine lv_iconst (v := 0) hx hb dX10_advance_30 (by decide) ?_
    refine va_put (D := E.1) (ci := 10) (v := .int 0) (ty := .int) (C := RX10) (T := TX10) (N := 5) hx hb hts inX10 tyX10 tyX10_ok nmX10 hown hK hP hD hS 0 rfl rfl 1 (by decide) fl11 (fun _ h9 => h9) rfl (by decide +kernel) rfl rfl (Nat.le_of_ble_eq_true rfl) dX10_advance_31 (fun H locs hP hD hS => ?_)
    have hP : va_P E.1 vwCl [(h0, .inr (10, [.ref tp, .int 0, .int u_3, .int nu, .int u_3])), (tp, .inr (9, [.ref by_, .int le])), (by_, .inl (E.2.1 0, 800, .inl f))] H := hP
    have hD : va_D A [(h0, .inr (10, [.ref tp, .int 0, .int u_3, .int nu, .int u_3])), (tp, .inr (9, [.ref by_, .int le])), (by_, .inl (E.2.1 0, 800, .inl f))] := hD
    refine lv_goto (tgt := 90) hx hb dX10_advance_34 (by decide) ?_
    have hP9 := hP.sub (ws' := [(h0, .inr (10, [.ref tp, .int 0, .int u_3, .int nu, .int u_3])), (tp, .inr (9, [.ref by_, .int le])), (by_, .inl (E.2.1 0, 800, .inl f))]) [0, 1, 2] rfl
    have hD9 := hD.sub (ws' := [(h0, .inr (10, [.ref tp, .int 0, .int u_3, .int nu, .int u_3])), (tp, .inr (9, [.ref by_, .int le])), (by_, .inl (E.2.1 0, 800, .inl f))]) [0, 1, 2] (by decide) rfl
    exact W.vret hx hb hr (fun t ht hW => ⟨⟨(0, u_3, nu, u_3), rfl, trivial, by rw [ht]; exact hP9, hD9⟩, hS.F ht⟩) hS.2.2 dX10_advance_90
set_option maxHeartbeats 4000000 in
set_option maxRecDepth 100000 in
theorem c_X10_restart (l : Launch) (E : vE) (h0 : Nat) (tp : Nat) (by_ : Nat) (kd : Int32) (sa : Int32) (nu : Int32) (be : Int32) (le : Int32) (f : Nat → Int32) (sz : Nat) : Met l yX10_restart wsX10_restart ({ frames := 3, cells := 0, slots := 0, locals := 62 }) (pcW E [.ref h0] sz [(h0, .inr (10, [.ref tp, .int kd, .int sa, .int nu, .int be])), (tp, .inr (9, [.ref by_, .int le])), (by_, .inl (E.2.1 0, 800, .inl f))]) (va_Qv (fun (u : Int32 × Int32 × Int32 × Int32) => match u with | (kd2, sa2, nu2, be2) => True) (fun (u : Int32 × Int32 × Int32 × Int32) (t : State) => match u with | (kd2, sa2, nu2, be2) => wB E (va_A [(h0, .inr (10, [.ref tp, .int kd, .int sa, .int nu, .int be])), (tp, .inr (9, [.ref by_, .int le])), (by_, .inl (E.2.1 0, 800, .inl f))] sz) [(h0, .inr (10, [.ref tp, .int kd2, .int sa2, .int nu2, .int be2])), (tp, .inr (9, [.ref by_, .int le])), (by_, .inl (E.2.1 0, 800, .inl f))] t) (va_A [(h0, .inr (10, [.ref tp, .int kd, .int sa, .int nu, .int be])), (tp, .inr (9, [.ref by_, .int le])), (by_, .inl (E.2.1 0, 800, .inl f))] sz)) 0 0 (va_A [(h0, .inr (10, [.ref tp, .int kd, .int sa, .int nu, .int be])), (tp, .inr (9, [.ref by_, .int le])), (by_, .inl (E.2.1 0, 800, .inl f))] sz) := by
  refine Met.ofW (cc := cX10_restart) (maxL := 1) (ret := none) (by decide) rfl ?_
  intro p e s m args below meth c s₁ B hml hv
  obtain ⟨rfl, hsz, hP, hkn, hD0, hst⟩ := hv
  have hx := B.exec
  have hb := B.bytes
  have hr := B.returns
  have hts := atoms_spec (ws := wsX10_restart) B.pre
  have hown : s.vm.findClass RX10 = some m.cls := findClass_of_methodNamed B.named
  have hlocks := B.notSynchronized
  subst hsz
  have hD := hD0.self (sz := s.heap.size)
  have hK := hkn.1
  have hAO := hkn.2.2.1
  generalize hAe : va_A [(h0, .inr (10, [.ref tp, .int kd, .int sa, .int nu, .int be])), (tp, .inr (9, [.ref by_, .int le])), (by_, .inl (E.2.1 0, 800, .inl f))] s.heap.size = A at hD hst ⊢
  have hA : ∀ q : Nat, s.heap.size ≤ q → A q := fun q h => by rw [← hAe]; exact Or.inr h
  have hS : va_S A s.heap s.heap [] := va_S.rf
  have hP : va_P E.1 vwCl [(h0, .inr (10, [.ref tp, .int kd, .int sa, .int nu, .int be])), (tp, .inr (9, [.ref by_, .int le])), (by_, .inl (E.2.1 0, 800, .inl f))] s.heap := hP
  have hl := lv_entry ([.ref h0]) (n := 1) (Nat.le_of_ble_eq_true rfl)
  rw [lg_entry_eq]
  generalize (lg_sl ([.ref h0]) ++ List.replicate (1 - (lg_sl ([.ref h0])).length) Slot.unset).toArray = ls at hl ⊢
  have hl : lv_has ls 1 [(0, .ref h0)] := hl
  have fl21 := hts (.fieldLink RX10 21 "BoatsHome$Tokens" "behind" "I") (by first | exact List.mem_of_getElem? (i := 1) rfl | decide +kernel)
  have inX10 : ∀ w ∈ u_ws RX10 TX10 5, w ∈ wsX10_restart := by first | exact fun w h9 => (List.mem_cons_of_mem _ (List.mem_append_left _ (List.mem_append_right _ h9))) | decide +kernel
  refine lv_aload_n hx hb dX10_restart_0 rfl (lv_at hl 0 rfl) ?_
  refine lv_iconst (v := 0) hx hb dX10_restart_1 (by decide) ?_
  refine va_put (D := E.1) (ci := 10) (v := .int 0) (ty := .int) (C := RX10) (T := TX10) (N := 5) hx hb hts inX10 tyX10 tyX10_ok nmX10 hown hK hP hD hS 0 rfl rfl 4 (by decide) fl21 (fun _ h9 => h9) rfl (by decide +kernel) rfl rfl (Nat.le_of_ble_eq_true rfl) dX10_restart_2 (fun H locs hP hD hS => ?_)
  have hP : va_P E.1 vwCl [(h0, .inr (10, [.ref tp, .int kd, .int sa, .int nu, .int 0])), (tp, .inr (9, [.ref by_, .int le])), (by_, .inl (E.2.1 0, 800, .inl f))] H := hP
  have hD : va_D A [(h0, .inr (10, [.ref tp, .int kd, .int sa, .int nu, .int 0])), (tp, .inr (9, [.ref by_, .int le])), (by_, .inl (E.2.1 0, 800, .inl f))] := hD
  refine lv_aload_n hx hb dX10_restart_5 rfl (lv_at hl 0 rfl) ?_
  have hPc := hP.sub (ws' := [(h0, .inr (10, [.ref tp, .int kd, .int sa, .int nu, .int 0])), (tp, .inr (9, [.ref by_, .int le])), (by_, .inl (E.2.1 0, 800, .inl f))]) [0, 1, 2] rfl
  have hDc := hD.sub (ws' := [(h0, .inr (10, [.ref tp, .int kd, .int sa, .int nu, .int 0])), (tp, .inr (9, [.ref by_, .int le])), (by_, .inl (E.2.1 0, 800, .inl f))]) [0, 1, 2] (by decide) rfl
  have hFc := va_free (wc := [(h0, .inr (10, [.ref tp, .int kd, .int sa, .int nu, .int 0])), (tp, .inr (9, [.ref by_, .int le])), (by_, .inl (E.2.1 0, 800, .inl f))]) hD hS hA [0, 1, 2] rfl
  refine va_callv (va_runV (As := []) (rest := []) ⟨hx, hb, hml, hown, hts⟩ (c_X10_advance l E h0 tp by_ kd sa nu 0 le f H.size ) (cwV 0 hts gX10_restart_X10_advance rfl rfl rfl hdV_X10_advance ⟨Nat.le_of_ble_eq_true rfl, Nat.le_of_ble_eq_true rfl⟩) ⟨pcW_blind, va_recv hK hPc (ci := 10) (q0 := 0) rfl rfl, (pcW_pre hPc hkn hDc hst hS hFc)⟩ rfl rfl hl.1 rfl (lv_room (Nat.le_of_ble_eq_true rfl)) dX10_restart_6 ⟨Nat.le_of_ble_eq_true rfl, Nat.le_of_ble_eq_true rfl⟩) hS (fun q _ h => hFc q h) hFc (fun u t H1 locs ht hvm hw_2 hB hz1 hk1 hS => ?_)
  obtain ⟨u_3, u_4, u_5, u_6⟩ := u
  obtain ⟨hP1, hD1⟩ := hB
  rw [ht] at hP1
  try dsimp only at hw_2
  obtain ⟨hP, hD⟩ := va_join (wr := []) (w1 := [(h0, .inr (10, [.ref tp, .int u_3, .int u_4, .int u_5, .int u_6])), (tp, .inr (9, [.ref by_, .int le])), (by_, .inl (E.2.1 0, 800, .inl f))]) hP hD [0, 1, 2] [] rfl rfl (by decide) (by decide) hk1 hFc hP1 hD1
  generalize H1 = H at hP hS ⊢
  have hP : va_P E.1 vwCl [(h0, .inr (10, [.ref tp, .int u_3, .int u_4, .int u_5, .int u_6])), (tp, .inr (9, [.ref by_, .int le])), (by_, .inl (E.2.1 0, 800, .inl f))] H := hP
  have hD : va_D A [(h0, .inr (10, [.ref tp, .int u_3, .int u_4, .int u_5, .int u_6])), (tp, .inr (9, [.ref by_, .int le])), (by_, .inl (E.2.1 0, 800, .inl f))] := hD
  have hP9 := hP.sub (ws' := [(h0, .inr (10, [.ref tp, .int u_3, .int u_4, .int u_5, .int u_6])), (tp, .inr (9, [.ref by_, .int le])), (by_, .inl (E.2.1 0, 800, .inl f))]) [0, 1, 2] rfl
  have hD9 := hD.sub (ws' := [(h0, .inr (10, [.ref tp, .int u_3, .int u_4, .int u_5, .int u_6])), (tp, .inr (9, [.ref by_, .int le])), (by_, .inl (E.2.1 0, 800, .inl f))]) [0, 1, 2] (by decide) rfl
  exact W.vret hx hb hr (fun t ht hW => ⟨⟨(u_3, u_4, u_5, u_6), rfl, trivial, by rw [ht]; exact hP9, hD9⟩, hS.F ht⟩) hS.2.2 dX10_restart_9
set_option maxHeartbeats 4000000 in
set_option maxRecDepth 100000 in
theorem lg_spell {p : Program} {l : Launch} {e : Env} {s : State} {m : MethodId} {args : Array Value} {below : List Frame} {meth : Method} {c : Code} {Q : State → Prop} {A : Nat → Prop} (E : vE) (h0 : Nat) (tp : Nat) (by_ : Nat) (kd : Int32) (sa : Int32) (nu : Int32) (be : Int32) (le : Int32) (f : Nat → Int32) (i : Nat) (hx : p.tables.exec = Jvm.exec) (hb : c.code = cX10_spells) (hml : c.maxLocals = 3) (hown : s.vm.findClass RX10 = some m.cls) (hts : ∀ w ∈ wsX10_spells, w.before args s = true) (hkn : kn E s) (hst : st E A s s.heap) (hA : ∀ q : Nat, s.heap.size ≤ q → A q) (hi : i < 17) (kk : ∀ (H : Heap) (locs : List Loc) (ls : Array Slot), va_P E.1 vwCl [(h0, .inr (10, [.ref tp, .int kd, .int sa, .int nu, .int be])), (tp, .inr (9, [.ref by_, .int le])), (by_, .inl (E.2.1 0, 800, .inl f))] H → va_D A [(h0, .inr (10, [.ref tp, .int kd, .int sa, .int nu, .int be])), (tp, .inr (9, [.ref by_, .int le])), (by_, .inl (E.2.1 0, 800, .inl f))] → va_S A s.heap H locs → lv_has ls 3 [(0, .ref h0), (1, .ref (E.2.2.1 i))] → W p l e ({ frames := 4, cells := 0, slots := 0, locals := 85 }) s m args below meth c H locs 0 0 Q (F0 m 65 ls [])) (kk2 : ∀ (H : Heap) (locs : List Loc) (ls : Array Slot), va_P E.1 vwCl [(h0, .inr (10, [.ref tp, .int kd, .int sa, .int nu, .int be])), (tp, .inr (9, [.ref by_, .int le])), (by_, .inl (E.2.1 0, 800, .inl f))] H → va_D A [(h0, .inr (10, [.ref tp, .int kd, .int sa, .int nu, .int be])), (tp, .inr (9, [.ref by_, .int le])), (by_, .inl (E.2.1 0, 800, .inl f))] → va_S A s.heap H locs → lv_has ls 3 [(0, .ref h0), (1, .ref (E.2.2.1 i))] → W p l e ({ frames := 4, cells := 0, slots := 0, locals := 85 }) s m args below meth c H locs 0 0 Q (F0 m 57 ls [])) : ∀ (n0 : Nat) (k : Nat) (H : Heap) (locs : List Loc) (ls : Array Slot), sLen.getD i 0 - k < n0 → (k ≤ sLen.getD i 0) → va_P E.1 vwCl [(h0, .inr (10, [.ref tp, .int kd, .int sa, .int nu, .int be])), (tp, .inr (9, [.ref by_, .int le])), (by_, .inl (E.2.1 0, 800, .inl f))] H → va_D A [(h0, .inr (10, [.ref tp, .int kd, .int sa, .int nu, .int be])), (tp, .inr (9, [.ref by_, .int le])), (by_, .inl (E.2.1 0, 800, .inl f))] → va_S A s.heap H locs → lv_has ls 3 [(0, .ref h0), (1, .ref (E.2.2.1 i)), (2, .int (nI k))] → W p l e ({ frames := 4, cells := 0, slots := 0, locals := 85 }) s m args below meth c H locs 0 0 Q (F0 m 28 ls []) := by
  have hK := hkn.1
  have hAO := hkn.2.2.1
  have fl11 := hts (.fieldLink RX10 11 "BoatsHome$Tokens" "kind" "I") (by first | exact List.mem_of_getElem? (i := 1) rfl | decide +kernel)
  have fl15 := hts (.fieldLink RX10 15 "BoatsHome$Tokens" "start" "I") (by first | exact List.mem_of_getElem? (i := 3) rfl | decide +kernel)
  have fl21 := hts (.fieldLink RX10 21 "BoatsHome$Tokens" "behind" "I") (by first | exact List.mem_of_getElem? (i := 2) rfl | decide +kernel)
  have fl24 := hts (.fieldLink RX10 24 "BoatsHome$Tokens" "tape" "LBoatsHome$Tape;") (by first | exact List.mem_of_getElem? (i := 4) rfl | decide +kernel)
  have inX10 : ∀ w ∈ u_ws RX10 TX10 5, w ∈ wsX10_spells := by first | exact fun w h9 => (List.mem_cons_of_mem _ (List.mem_append_left _ (List.mem_append_right _ h9))) | decide +kernel
  intro n0
  induction n0 with
  | zero =>
    intro k H locs ls hn0
    exact absurd hn0 (Nat.not_lt_zero _)
  | succ n0 ih =>
    intro k H locs ls hn0 hk hP hD hS hl
    refine lv_iload_n hx hb dX10_spells_28 rfl (lv_at hl 2 rfl) ?_
    refine lv_aload_n hx hb dX10_spells_29 rfl (lv_at hl 1 rfl) ?_
    have hPc := hP.sub (ws' := []) [] rfl
    have hDc := hD.sub (ws' := []) [] (by decide) rfl
    have hFc := va_free (wc := []) hD hS hA [] rfl
    refine va_calli (va_runV (As := []) (rest := [.int (nI k)]) ⟨hx, hb, hml, hown, hts⟩ (c_J0_length_8abf5 l E i H.size hi) (cwV 0 hts gX10_spells_J0_length_8abf5 rfl rfl rfl hdV_J0_length_8abf5 ⟨Nat.le_of_ble_eq_true rfl, Nat.le_of_ble_eq_true rfl⟩) ⟨pcW_blind, vk_recv hst.2.2.2.2 hi hS, (pcW_pre hPc hkn hDc hst hS hFc)⟩ rfl rfl hl.1 rfl (lv_room (Nat.le_of_ble_eq_true rfl)) dX10_spells_30 ⟨Nat.le_of_ble_eq_true rfl, Nat.le_of_ble_eq_true rfl⟩) hS (fun q _ h => hFc q h) hFc (fun r_1 u t H1 locs ht hvm hw_2 hB hz1 hk1 hS => ?_)
    obtain ⟨hP1, hD1⟩ := hB
    rw [ht] at hP1
    try dsimp only at hw_2
    obtain ⟨hP, hD⟩ := va_join (wr := [(h0, .inr (10, [.ref tp, .int kd, .int sa, .int nu, .int be])), (tp, .inr (9, [.ref by_, .int le])), (by_, .inl (E.2.1 0, 800, .inl f))]) (w1 := []) hP hD [] [0, 1, 2] rfl rfl (by decide) (by decide) hk1 hFc hP1 hD1
    generalize H1 = H at hP hS ⊢
    have hP : va_P E.1 vwCl [(h0, .inr (10, [.ref tp, .int kd, .int sa, .int nu, .int be])), (tp, .inr (9, [.ref by_, .int le])), (by_, .inl (E.2.1 0, 800, .inl f))] H := hP
    have hD : va_D A [(h0, .inr (10, [.ref tp, .int kd, .int sa, .int nu, .int be])), (tp, .inr (9, [.ref by_, .int le])), (by_, .inl (E.2.1 0, 800, .inl f))] := hD
    obtain rfl : r_1 = nI (sLen.getD i 0) := hw_2
    refine lv_icmp_ge (tgt := 65) hx hb dX10_spells_33 (by decide) (fun c_3 => ?_) (fun c_3 => ?_)
    · exact kk  _ _ _  (hP.sub [0, 1, 2] rfl) (hD.sub [0, 1, 2] (by decide) rfl) hS (lv_sub hl [0, 1] rfl)
    · have hlt : k < sLen.getD i 0 := by
        rcases Nat.lt_or_ge k (sLen.getD i 0) with q | q
        · exact q
        · exact absurd (nI_le q (by have := s_len hi; omega)) c_3
      refine lv_aload_n hx hb dX10_spells_36 rfl (lv_at hl 0 rfl) ?_
      refine va_get (D := E.1) (ci := 10) (v := .ref tp) (C := RX10) (T := TX10) (N := 5) hx hb hts inX10 hown hK hP 0 rfl rfl 0 (by decide) fl24 (fun _ h9 => h9) rfl dX10_spells_37 ?_
      refine lv_aload_n hx hb dX10_spells_40 rfl (lv_at hl 0 rfl) ?_
      refine va_get (D := E.1) (ci := 10) (v := .int sa) (C := RX10) (T := TX10) (N := 5) hx hb hts inX10 hown hK hP 0 rfl rfl 2 (by decide) fl15 (fun _ h9 => h9) rfl dX10_spells_41 ?_
      refine lv_iload_n hx hb dX10_spells_44 rfl (lv_at hl 2 rfl) ?_
      refine lv_iadd hx hb dX10_spells_45 ?_
      refine lv_topi (fun x_4 ex_4 => ?_)
      have hPc := hP.sub (ws' := [(tp, .inr (9, [.ref by_, .int le])), (by_, .inl (E.2.1 0, 800, .inl f))]) [1, 2] rfl
      have hDc := hD.sub (ws' := [(tp, .inr (9, [.ref by_, .int le])), (by_, .inl (E.2.1 0, 800, .inl f))]) [1, 2] (by decide) rfl
      have hFc := va_free (wc := [(tp, .inr (9, [.ref by_, .int le])), (by_, .inl (E.2.1 0, 800, .inl f))]) hD hS hA [1, 2] rfl
      refine va_calli (va_runV (As := [.int x_4]) (rest := []) ⟨hx, hb, hml, hown, hts⟩ (c_X9_byteAt l E tp by_ le x_4 f H.size ) (cwV 1 hts gX10_spells_X9_byteAt rfl rfl rfl hdV_X9_byteAt ⟨Nat.le_of_ble_eq_true rfl, Nat.le_of_ble_eq_true rfl⟩) ⟨pcW_blind, va_recv hK hPc (ci := 9) (q0 := 0) rfl rfl, (pcW_pre hPc hkn hDc hst hS hFc)⟩ rfl rfl hl.1 rfl (lv_room (Nat.le_of_ble_eq_true rfl)) dX10_spells_46 ⟨Nat.le_of_ble_eq_true rfl, Nat.le_of_ble_eq_true rfl⟩) hS (fun q _ h => hFc q h) hFc (fun r_5 u t H1 locs ht hvm hw_6 hB hz1 hk1 hS => ?_)
      obtain ⟨hP1, hD1⟩ := hB
      rw [ht] at hP1
      try dsimp only at hw_6
      obtain ⟨hP, hD⟩ := va_join (wr := [(h0, .inr (10, [.ref tp, .int kd, .int sa, .int nu, .int be]))]) (w1 := [(tp, .inr (9, [.ref by_, .int le])), (by_, .inl (E.2.1 0, 800, .inl f))]) hP hD [1, 2] [0] rfl rfl (by decide) (by decide) hk1 hFc hP1 hD1
      generalize H1 = H at hP hS ⊢
      have hP : va_P E.1 vwCl [(h0, .inr (10, [.ref tp, .int kd, .int sa, .int nu, .int be])), (tp, .inr (9, [.ref by_, .int le])), (by_, .inl (E.2.1 0, 800, .inl f))] H := hP
      have hD : va_D A [(h0, .inr (10, [.ref tp, .int kd, .int sa, .int nu, .int be])), (tp, .inr (9, [.ref by_, .int le])), (by_, .inl (E.2.1 0, 800, .inl f))] := hD
      refine lv_aload_n hx hb dX10_spells_49 rfl (lv_at hl 1 rfl) ?_
      refine lv_iload_n hx hb dX10_spells_50 rfl (lv_at hl 2 rfl) ?_
      have hPc := hP.sub (ws' := []) [] rfl
      have hDc := hD.sub (ws' := []) [] (by decide) rfl
      have hFc := va_free (wc := []) hD hS hA [] rfl
      refine va_calli (va_runV (As := [.int (nI k)]) (rest := [.int r_5]) ⟨hx, hb, hml, hown, hts⟩ (c_J0_charAt_5068e l E i k H.size hi hlt) (cwV 1 hts gX10_spells_J0_charAt_5068e rfl rfl rfl hdV_J0_charAt_5068e ⟨Nat.le_of_ble_eq_true rfl, Nat.le_of_ble_eq_true rfl⟩) ⟨pcW_blind, vk_recv hst.2.2.2.2 hi hS, (pcW_pre hPc hkn hDc hst hS hFc)⟩ rfl rfl hl.1 rfl (lv_room (Nat.le_of_ble_eq_true rfl)) dX10_spells_51 ⟨Nat.le_of_ble_eq_true rfl, Nat.le_of_ble_eq_true rfl⟩) hS (fun q _ h => hFc q h) hFc (fun r_7 u t H1 locs ht hvm hw_8 hB hz1 hk1 hS => ?_)
      obtain ⟨hP1, hD1⟩ := hB
      rw [ht] at hP1
      try dsimp only at hw_8
      obtain ⟨hP, hD⟩ := va_join (wr := [(h0, .inr (10, [.ref tp, .int kd, .int sa, .int nu, .int be])), (tp, .inr (9, [.ref by_, .int le])), (by_, .inl (E.2.1 0, 800, .inl f))]) (w1 := []) hP hD [] [0, 1, 2] rfl rfl (by decide) (by decide) hk1 hFc hP1 hD1
      generalize H1 = H at hP hS ⊢
      have hP : va_P E.1 vwCl [(h0, .inr (10, [.ref tp, .int kd, .int sa, .int nu, .int be])), (tp, .inr (9, [.ref by_, .int le])), (by_, .inl (E.2.1 0, 800, .inl f))] H := hP
      have hD : va_D A [(h0, .inr (10, [.ref tp, .int kd, .int sa, .int nu, .int be])), (tp, .inr (9, [.ref by_, .int le])), (by_, .inl (E.2.1 0, 800, .inl f))] := hD
      refine lv_icmp_eq (tgt := 59) hx hb dX10_spells_54 (by decide) (fun c_9 => ?_) (fun c_9 => ?_)
      · refine lv_iinc (v := (nI (k + 1))) (lv' := [(2, .int (nI (k + 1))), (0, .ref h0), (1, .ref (E.2.2.1 i))]) hx hb dX10_spells_59 hl (k := 2) rfl (show nI k + 1 = nI (k + 1) from nI_1 k) (by decide) rfl (fun ls hl => ?_)
        refine lv_goto (tgt := 28) hx hb dX10_spells_62 (by decide) ?_
        exact ih (k + 1) _ _ _ (by omega) (by omega) (hP.sub [0, 1, 2] rfl) (hD.sub [0, 1, 2] (by decide) rfl) hS (lv_sub hl [1, 2, 0] rfl)
      · exact kk2  _ _ _  (hP.sub [0, 1, 2] rfl) (hD.sub [0, 1, 2] (by decide) rfl) hS (lv_sub hl [0, 1] rfl)
set_option maxHeartbeats 4000000 in
set_option maxRecDepth 100000 in
theorem c_X10_spells (l : Launch) (E : vE) (h0 : Nat) (tp : Nat) (by_ : Nat) (kd : Int32) (sa : Int32) (nu : Int32) (be : Int32) (le : Int32) (f : Nat → Int32) (i : Nat) (sz : Nat) (hi : i < 17) : Met l yX10_spells wsX10_spells ({ frames := 4, cells := 0, slots := 0, locals := 85 }) (pcW E [.ref h0, .ref (E.2.2.1 i)] sz [(h0, .inr (10, [.ref tp, .int kd, .int sa, .int nu, .int be])), (tp, .inr (9, [.ref by_, .int le])), (by_, .inl (E.2.1 0, 800, .inl f))]) (va_Qi (fun (r : Int32) (_ : Unit) => True) (fun (_ : Unit) (t : State) => wB E (va_A [(h0, .inr (10, [.ref tp, .int kd, .int sa, .int nu, .int be])), (tp, .inr (9, [.ref by_, .int le])), (by_, .inl (E.2.1 0, 800, .inl f))] sz) [(h0, .inr (10, [.ref tp, .int kd, .int sa, .int nu, .int be])), (tp, .inr (9, [.ref by_, .int le])), (by_, .inl (E.2.1 0, 800, .inl f))] t) (va_A [(h0, .inr (10, [.ref tp, .int kd, .int sa, .int nu, .int be])), (tp, .inr (9, [.ref by_, .int le])), (by_, .inl (E.2.1 0, 800, .inl f))] sz)) 0 0 (va_A [(h0, .inr (10, [.ref tp, .int kd, .int sa, .int nu, .int be])), (tp, .inr (9, [.ref by_, .int le])), (by_, .inl (E.2.1 0, 800, .inl f))] sz) := by
  refine Met.ofW (cc := cX10_spells) (maxL := 3) (ret := (some .boolean)) (by decide) rfl ?_
  intro p e s m args below meth c s₁ B hml hv
  obtain ⟨rfl, hsz, hP, hkn, hD0, hst⟩ := hv
  have hx := B.exec
  have hb := B.bytes
  have hr := B.returns
  have hts := atoms_spec (ws := wsX10_spells) B.pre
  have hown : s.vm.findClass RX10 = some m.cls := findClass_of_methodNamed B.named
  have hlocks := B.notSynchronized
  subst hsz
  have hD := hD0.self (sz := s.heap.size)
  have hK := hkn.1
  have hAO := hkn.2.2.1
  generalize hAe : va_A [(h0, .inr (10, [.ref tp, .int kd, .int sa, .int nu, .int be])), (tp, .inr (9, [.ref by_, .int le])), (by_, .inl (E.2.1 0, 800, .inl f))] s.heap.size = A at hD hst ⊢
  have hA : ∀ q : Nat, s.heap.size ≤ q → A q := fun q h => by rw [← hAe]; exact Or.inr h
  have hS : va_S A s.heap s.heap [] := va_S.rf
  have hP : va_P E.1 vwCl [(h0, .inr (10, [.ref tp, .int kd, .int sa, .int nu, .int be])), (tp, .inr (9, [.ref by_, .int le])), (by_, .inl (E.2.1 0, 800, .inl f))] s.heap := hP
  have hl := lv_entry ([.ref h0, .ref (E.2.2.1 i)]) (n := 3) (Nat.le_of_ble_eq_true rfl)
  rw [lg_entry_eq]
  generalize (lg_sl ([.ref h0, .ref (E.2.2.1 i)]) ++ List.replicate (3 - (lg_sl ([.ref h0, .ref (E.2.2.1 i)])).length) Slot.unset).toArray = ls at hl ⊢
  have hl : lv_has ls 3 [(0, .ref h0), (1, .ref (E.2.2.1 i))] := hl
  have fl11 := hts (.fieldLink RX10 11 "BoatsHome$Tokens" "kind" "I") (by first | exact List.mem_of_getElem? (i := 1) rfl | decide +kernel)
  have fl15 := hts (.fieldLink RX10 15 "BoatsHome$Tokens" "start" "I") (by first | exact List.mem_of_getElem? (i := 3) rfl | decide +kernel)
  have fl21 := hts (.fieldLink RX10 21 "BoatsHome$Tokens" "behind" "I") (by first | exact List.mem_of_getElem? (i := 2) rfl | decide +kernel)
  have fl24 := hts (.fieldLink RX10 24 "BoatsHome$Tokens" "tape" "LBoatsHome$Tape;") (by first | exact List.mem_of_getElem? (i := 4) rfl | decide +kernel)
  have inX10 : ∀ w ∈ u_ws RX10 TX10 5, w ∈ wsX10_spells := by first | exact fun w h9 => (List.mem_cons_of_mem _ (List.mem_append_left _ (List.mem_append_right _ h9))) | decide +kernel
  refine lv_aload_n hx hb dX10_spells_0 rfl (lv_at hl 0 rfl) ?_
  refine va_get (D := E.1) (ci := 10) (v := .int kd) (C := RX10) (T := TX10) (N := 5) hx hb hts inX10 hown hK hP 0 rfl rfl 1 (by decide) fl11 (fun _ h9 => h9) rfl dX10_spells_1 ?_
  refine lv_iconst (v := 1) hx hb dX10_spells_4 (by decide) ?_
  refine lv_icmp_ne (tgt := 24) hx hb dX10_spells_5 (by decide) (fun c_1 => ?_) (fun c_1 => ?_)
  · refine lv_iconst (v := 0) hx hb dX10_spells_24 (by decide) ?_
    have hP9 := hP.sub (ws' := [(h0, .inr (10, [.ref tp, .int kd, .int sa, .int nu, .int be])), (tp, .inr (9, [.ref by_, .int le])), (by_, .inl (E.2.1 0, 800, .inl f))]) [0, 1, 2] rfl
    have hD9 := hD.sub (ws' := [(h0, .inr (10, [.ref tp, .int kd, .int sa, .int nu, .int be])), (tp, .inr (9, [.ref by_, .int le])), (by_, .inl (E.2.1 0, 800, .inl f))]) [0, 1, 2] (by decide) rfl
    exact W.zret (v := 0) hx hb hr (by decide) (fun t ht hW => ⟨⟨0, (), rfl, trivial, by rw [ht]; exact hP9, hD9⟩, hS.F ht⟩) hS.2.2 dX10_spells_25
  · refine lv_aload_n hx hb dX10_spells_8 rfl (lv_at hl 0 rfl) ?_
    refine va_get (D := E.1) (ci := 10) (v := .int be) (C := RX10) (T := TX10) (N := 5) hx hb hts inX10 hown hK hP 0 rfl rfl 4 (by decide) fl21 (fun _ h9 => h9) rfl dX10_spells_9 ?_
    refine lv_aload_n hx hb dX10_spells_12 rfl (lv_at hl 0 rfl) ?_
    refine va_get (D := E.1) (ci := 10) (v := .int sa) (C := RX10) (T := TX10) (N := 5) hx hb hts inX10 hown hK hP 0 rfl rfl 2 (by decide) fl15 (fun _ h9 => h9) rfl dX10_spells_13 ?_
    refine lv_isub hx hb dX10_spells_16 ?_
    refine lv_topi (fun x_2 ex_2 => ?_)
    refine lv_aload_n hx hb dX10_spells_17 rfl (lv_at hl 1 rfl) ?_
    have hPc := hP.sub (ws' := []) [] rfl
    have hDc := hD.sub (ws' := []) [] (by decide) rfl
    have hFc := va_free (wc := []) hD hS hA [] rfl
    refine va_calli (va_runV (As := []) (rest := [.int x_2]) ⟨hx, hb, hml, hown, hts⟩ (c_J0_length_8abf5 l E i s.heap.size hi) (cwV 0 hts gX10_spells_J0_length_8abf5 rfl rfl rfl hdV_J0_length_8abf5 ⟨Nat.le_of_ble_eq_true rfl, Nat.le_of_ble_eq_true rfl⟩) ⟨pcW_blind, vk_recv hst.2.2.2.2 hi hS, (pcW_pre hPc hkn hDc hst hS hFc)⟩ rfl rfl hl.1 rfl (lv_room (Nat.le_of_ble_eq_true rfl)) dX10_spells_18 ⟨Nat.le_of_ble_eq_true rfl, Nat.le_of_ble_eq_true rfl⟩) hS (fun q _ h => hFc q h) hFc (fun r_3 u t H1 locs ht hvm hw_4 hB hz1 hk1 hS => ?_)
    obtain ⟨hP1, hD1⟩ := hB
    rw [ht] at hP1
    try dsimp only at hw_4
    obtain ⟨hP, hD⟩ := va_join (wr := [(h0, .inr (10, [.ref tp, .int kd, .int sa, .int nu, .int be])), (tp, .inr (9, [.ref by_, .int le])), (by_, .inl (E.2.1 0, 800, .inl f))]) (w1 := []) hP hD [] [0, 1, 2] rfl rfl (by decide) (by decide) hk1 hFc hP1 hD1
    generalize H1 = H at hP hS ⊢
    have hP : va_P E.1 vwCl [(h0, .inr (10, [.ref tp, .int kd, .int sa, .int nu, .int be])), (tp, .inr (9, [.ref by_, .int le])), (by_, .inl (E.2.1 0, 800, .inl f))] H := hP
    have hD : va_D A [(h0, .inr (10, [.ref tp, .int kd, .int sa, .int nu, .int be])), (tp, .inr (9, [.ref by_, .int le])), (by_, .inl (E.2.1 0, 800, .inl f))] := hD
    obtain rfl : r_3 = nI (sLen.getD i 0) := hw_4
    refine lv_icmp_eq (tgt := 26) hx hb dX10_spells_21 (by decide) (fun c_5 => ?_) (fun c_5 => ?_)
    · refine lv_iconst (v := 0) hx hb dX10_spells_26 (by decide) ?_
      refine lv_istore_n (lv' := [(2, .int 0), (0, .ref h0), (1, .ref (E.2.2.1 i))]) hx hb dX10_spells_27 rfl hl (by decide) rfl (fun ls hl => ?_)
      have hPl := hP.sub (ws' := [(h0, .inr (10, [.ref tp, .int kd, .int sa, .int nu, .int be])), (tp, .inr (9, [.ref by_, .int le])), (by_, .inl (E.2.1 0, 800, .inl f))]) [0, 1, 2] rfl
      have hDl := hD.sub (ws' := [(h0, .inr (10, [.ref tp, .int kd, .int sa, .int nu, .int be])), (tp, .inr (9, [.ref by_, .int le])), (by_, .inl (E.2.1 0, 800, .inl f))]) [0, 1, 2] (by decide) rfl
      refine lg_spell E h0 tp by_ kd sa nu be le f i hx hb hml hown hts hkn hst hA hi (fun  H locs ls  hP hD hS hl => ?_) (fun  H locs ls  hP hD hS hl => ?_) (sLen.getD i 0).succ 0 _ _ _ (by omega) (Nat.zero_le _) hPl hDl hS (lv_sub hl [1, 2, 0] rfl)
      · have hP : va_P E.1 vwCl [(h0, .inr (10, [.ref tp, .int kd, .int sa, .int nu, .int be])), (tp, .inr (9, [.ref by_, .int le])), (by_, .inl (E.2.1 0, 800, .inl f))] H := hP
        have hD : va_D A [(h0, .inr (10, [.ref tp, .int kd, .int sa, .int nu, .int be])), (tp, .inr (9, [.ref by_, .int le])), (by_, .inl (E.2.1 0, 800, .inl f))] := hD
        refine lv_iconst (v := 1) hx hb dX10_spells_65 (by decide) ?_
        have hP9 := hP.sub (ws' := [(h0, .inr (10, [.ref tp, .int kd, .int sa, .int nu, .int be])), (tp, .inr (9, [.ref by_, .int le])), (by_, .inl (E.2.1 0, 800, .inl f))]) [0, 1, 2] rfl
        have hD9 := hD.sub (ws' := [(h0, .inr (10, [.ref tp, .int kd, .int sa, .int nu, .int be])), (tp, .inr (9, [.ref by_, .int le])), (by_, .inl (E.2.1 0, 800, .inl f))]) [0, 1, 2] (by decide) rfl
        exact W.zret (v := 1) hx hb hr (by decide) (fun t ht hW => ⟨⟨1, (), rfl, trivial, by rw [ht]; exact hP9, hD9⟩, hS.F ht⟩) hS.2.2 dX10_spells_66
      · have hP : va_P E.1 vwCl [(h0, .inr (10, [.ref tp, .int kd, .int sa, .int nu, .int be])), (tp, .inr (9, [.ref by_, .int le])), (by_, .inl (E.2.1 0, 800, .inl f))] H := hP
        have hD : va_D A [(h0, .inr (10, [.ref tp, .int kd, .int sa, .int nu, .int be])), (tp, .inr (9, [.ref by_, .int le])), (by_, .inl (E.2.1 0, 800, .inl f))] := hD
        refine lv_iconst (v := 0) hx hb dX10_spells_57 (by decide) ?_
        have hP9 := hP.sub (ws' := [(h0, .inr (10, [.ref tp, .int kd, .int sa, .int nu, .int be])), (tp, .inr (9, [.ref by_, .int le])), (by_, .inl (E.2.1 0, 800, .inl f))]) [0, 1, 2] rfl
        have hD9 := hD.sub (ws' := [(h0, .inr (10, [.ref tp, .int kd, .int sa, .int nu, .int be])), (tp, .inr (9, [.ref by_, .int le])), (by_, .inl (E.2.1 0, 800, .inl f))]) [0, 1, 2] (by decide) rfl
        exact W.zret (v := 0) hx hb hr (by decide) (fun t ht hW => ⟨⟨0, (), rfl, trivial, by rw [ht]; exact hP9, hD9⟩, hS.F ht⟩) hS.2.2 dX10_spells_58
    · refine lv_iconst (v := 0) hx hb dX10_spells_24 (by decide) ?_
      have hP9 := hP.sub (ws' := [(h0, .inr (10, [.ref tp, .int kd, .int sa, .int nu, .int be])), (tp, .inr (9, [.ref by_, .int le])), (by_, .inl (E.2.1 0, 800, .inl f))]) [0, 1, 2] rfl
      have hD9 := hD.sub (ws' := [(h0, .inr (10, [.ref tp, .int kd, .int sa, .int nu, .int be])), (tp, .inr (9, [.ref by_, .int le])), (by_, .inl (E.2.1 0, 800, .inl f))]) [0, 1, 2] (by decide) rfl
      exact W.zret (v := 0) hx hb hr (by decide) (fun t ht hW => ⟨⟨0, (), rfl, trivial, by rw [ht]; exact hP9, hD9⟩, hS.F ht⟩) hS.2.2 dX10_spells_25
