set_option maxHeartbeats 4000000 in
set_option maxRecDepth 100000 in
theorem c_X6_refuse (l : Launch) (E : vE) (h0 : Nat) (tk : Nat) (tp : Nat) (by_ : Nat) (fk : Int32) (fq : Int32) (kd : Int32) (sa : Int32) (nu : Int32) (be : Int32) (le : Int32) (f : Nat → Int32) (ki : Int32) (sz : Nat) : Met l yX6_refuse wsX6_refuse ({ frames := 0, cells := 0, slots := 0, locals := 0 }) (pcW E [.ref h0, .int ki] sz [(h0, .inr (6, [.ref tk, .int fk, .int fq])), (tk, .inr (10, [.ref tp, .int kd, .int sa, .int nu, .int be])), (tp, .inr (9, [.ref by_, .int le])), (by_, .inl (E.2.1 0, 800, .inl f))]) (va_Qi (fun (r : Int32) (u : Int32 × Int32) => match u with | (fk2, fq2) => r = 0) (fun (u : Int32 × Int32) (t : State) => match u with | (fk2, fq2) => wB E (va_A [(h0, .inr (6, [.ref tk, .int fk, .int fq])), (tk, .inr (10, [.ref tp, .int kd, .int sa, .int nu, .int be])), (tp, .inr (9, [.ref by_, .int le])), (by_, .inl (E.2.1 0, 800, .inl f))] sz) [(h0, .inr (6, [.ref tk, .int fk2, .int fq2])), (tk, .inr (10, [.ref tp, .int kd, .int sa, .int nu, .int be])), (tp, .inr (9, [.ref by_, .int le])), (by_, .inl (E.2.1 0, 800, .inl f))] t) (va_A [(h0, .inr (6, [.ref tk, .int fk, .int fq])), (tk, .inr (10, [.ref tp, .int kd, .int sa, .int nu, .int be])), (tp, .inr (9, [.ref by_, .int le])), (by_, .inl (E.2.1 0, 800, .inl f))] sz)) 0 0 (va_A [(h0, .inr (6, [.ref tk, .int fk, .int fq])), (tk, .inr (10, [.ref tp, .int kd, .int sa, .int nu, .int be])), (tp, .inr (9, [.ref by_, .int le])), (by_, .inl (E.2.1 0, 800, .inl f))] sz) := by
  refine Met.ofW (cc := cX6_refuse) (maxL := 2) (ret := (some .boolean)) (by decide) rfl ?_
  intro p e s m args below meth c s₁ B hml hv
  obtain ⟨rfl, hsz, hP, hkn, hD0, hst⟩ := hv
  have hx := B.exec
  have hb := B.bytes
  have hr := B.returns
  have hts := atoms_spec (ws := wsX6_refuse) B.pre
  have hown : s.vm.findClass RX6 = some m.cls := findClass_of_methodNamed B.named
  have hlocks := B.notSynchronized
  subst hsz
  have hD := hD0.self (sz := s.heap.size)
  have hK := hkn.1
  have hAO := hkn.2.2.1
  generalize hAe : va_A [(h0, .inr (6, [.ref tk, .int fk, .int fq])), (tk, .inr (10, [.ref tp, .int kd, .int sa, .int nu, .int be])), (tp, .inr (9, [.ref by_, .int le])), (by_, .inl (E.2.1 0, 800, .inl f))] s.heap.size = A at hD hst ⊢
  have hA : ∀ q : Nat, s.heap.size ≤ q → A q := fun q h => by rw [← hAe]; exact Or.inr h
  have hS : va_S A s.heap s.heap [] := va_S.rf
  have hP : va_P E.1 vwCl [(h0, .inr (6, [.ref tk, .int fk, .int fq])), (tk, .inr (10, [.ref tp, .int kd, .int sa, .int nu, .int be])), (tp, .inr (9, [.ref by_, .int le])), (by_, .inl (E.2.1 0, 800, .inl f))] s.heap := hP
  have hl := lv_entry ([.ref h0, .int ki]) (n := 2) (Nat.le_of_ble_eq_true rfl)
  rw [lg_entry_eq]
  generalize (lg_sl ([.ref h0, .int ki]) ++ List.replicate (2 - (lg_sl ([.ref h0, .int ki])).length) Slot.unset).toArray = ls at hl ⊢
  have hl : lv_has ls 2 [(0, .ref h0), (1, .int ki)] := hl
  have fl9 := hts (.fieldLink RX6 9 "BoatsHome$Reader" "faultKind" "I") (by first | exact List.mem_of_getElem? (i := 1) rfl | decide +kernel)
  have fl15 := hts (.fieldLink RX6 15 "BoatsHome$Reader" "faultPlace" "I") (by first | exact List.mem_of_getElem? (i := 4) rfl | decide +kernel)
  have fl23 := hts (.fieldLink RX6 23 "BoatsHome$Reader" "tokens" "LBoatsHome$Tokens;") (by first | exact List.mem_of_getElem? (i := 2) rfl | decide +kernel)
  have fl150 := hts (.fieldLink RX6 150 "BoatsHome$Tokens" "start" "I") (by first | exact List.mem_of_getElem? (i := 3) rfl | decide +kernel)
  have inX10 : ∀ w ∈ u_ws RX10 TX10 5, w ∈ wsX6_refuse := by first | exact fun w h9 => (List.mem_cons_of_mem _ (List.mem_append_right _ h9)) | decide +kernel
  have inX6 : ∀ w ∈ u_ws RX6 TX6 3, w ∈ wsX6_refuse := by first | exact fun w h9 => (List.mem_cons_of_mem _ (List.mem_append_left _ (List.mem_append_right _ h9))) | decide +kernel
  refine lv_aload_n hx hb dX6_refuse_0 rfl (lv_at hl 0 rfl) ?_
  refine lv_iload_n hx hb dX6_refuse_1 rfl (lv_at hl 1 rfl) ?_
  refine va_put (D := E.1) (ci := 6) (v := .int ki) (ty := .int) (C := RX6) (T := TX6) (N := 3) hx hb hts inX6 tyX6 tyX6_ok nmX6 hown hK hP hD hS 0 rfl rfl 1 (by decide) fl9 (fun _ h9 => h9) rfl (by decide +kernel) rfl rfl (Nat.le_of_ble_eq_true rfl) dX6_refuse_2 (fun H locs hP hD hS => ?_)
  have hP : va_P E.1 vwCl [(h0, .inr (6, [.ref tk, .int ki, .int fq])), (tk, .inr (10, [.ref tp, .int kd, .int sa, .int nu, .int be])), (tp, .inr (9, [.ref by_, .int le])), (by_, .inl (E.2.1 0, 800, .inl f))] H := hP
  have hD : va_D A [(h0, .inr (6, [.ref tk, .int ki, .int fq])), (tk, .inr (10, [.ref tp, .int kd, .int sa, .int nu, .int be])), (tp, .inr (9, [.ref by_, .int le])), (by_, .inl (E.2.1 0, 800, .inl f))] := hD
  refine lv_aload_n hx hb dX6_refuse_5 rfl (lv_at hl 0 rfl) ?_
  refine lv_aload_n hx hb dX6_refuse_6 rfl (lv_at hl 0 rfl) ?_
  refine va_get (D := E.1) (ci := 6) (v := .ref tk) (C := RX6) (T := TX6) (N := 3) hx hb hts inX6 hown hK hP 0 rfl rfl 0 (by decide) fl23 (fun _ h9 => h9) rfl dX6_refuse_7 ?_
  refine va_get (D := E.1) (ci := 10) (v := .int sa) (C := RX10) (T := TX10) (N := 5) hx hb hts inX10 hown hK hP 1 rfl rfl 2 (by decide) fl150 (fun _ h9 => h9) rfl dX6_refuse_10 ?_
  refine va_put (D := E.1) (ci := 6) (v := .int sa) (ty := .int) (C := RX6) (T := TX6) (N := 3) hx hb hts inX6 tyX6 tyX6_ok nmX6 hown hK hP hD hS 0 rfl rfl 2 (by decide) fl15 (fun _ h9 => h9) rfl (by decide +kernel) rfl rfl (Nat.le_of_ble_eq_true rfl) dX6_refuse_13 (fun H locs hP hD hS => ?_)
  have hP : va_P E.1 vwCl [(h0, .inr (6, [.ref tk, .int ki, .int sa])), (tk, .inr (10, [.ref tp, .int kd, .int sa, .int nu, .int be])), (tp, .inr (9, [.ref by_, .int le])), (by_, .inl (E.2.1 0, 800, .inl f))] H := hP
  have hD : va_D A [(h0, .inr (6, [.ref tk, .int ki, .int sa])), (tk, .inr (10, [.ref tp, .int kd, .int sa, .int nu, .int be])), (tp, .inr (9, [.ref by_, .int le])), (by_, .inl (E.2.1 0, 800, .inl f))] := hD
  refine lv_iconst (v := 0) hx hb dX6_refuse_16 (by decide) ?_
  have hP9 := hP.sub (ws' := [(h0, .inr (6, [.ref tk, .int ki, .int sa])), (tk, .inr (10, [.ref tp, .int kd, .int sa, .int nu, .int be])), (tp, .inr (9, [.ref by_, .int le])), (by_, .inl (E.2.1 0, 800, .inl f))]) [0, 1, 2, 3] rfl
  have hD9 := hD.sub (ws' := [(h0, .inr (6, [.ref tk, .int ki, .int sa])), (tk, .inr (10, [.ref tp, .int kd, .int sa, .int nu, .int be])), (tp, .inr (9, [.ref by_, .int le])), (by_, .inl (E.2.1 0, 800, .inl f))]) [0, 1, 2, 3] (by decide) rfl
  exact W.zret (v := 0) hx hb hr (by decide) (fun t ht hW => ⟨⟨0, (ki, sa), rfl, rfl, by rw [ht]; exact hP9, hD9⟩, hS.F ht⟩) hS.2.2 dX6_refuse_17
set_option maxHeartbeats 4000000 in
set_option maxRecDepth 100000 in
theorem c_X6_takeStop (l : Launch) (E : vE) (h0 : Nat) (tk : Nat) (tp : Nat) (by_ : Nat) (fk : Int32) (fq : Int32) (kd : Int32) (sa : Int32) (nu : Int32) (be : Int32) (le : Int32) (f : Nat → Int32) (sz : Nat) : Met l yX6_takeStop wsX6_takeStop ({ frames := 5, cells := 0, slots := 0, locals := 107 }) (pcW E [.ref h0] sz [(h0, .inr (6, [.ref tk, .int fk, .int fq])), (tk, .inr (10, [.ref tp, .int kd, .int sa, .int nu, .int be])), (tp, .inr (9, [.ref by_, .int le])), (by_, .inl (E.2.1 0, 800, .inl f))]) (va_Qi (fun (r : Int32) (u : Int32 × Int32 × Int32 × Int32 × Int32 × Int32) => match u with | (fk2, fq2, kd2, sa2, nu2, be2) => r = 0 ∨ r = 1) (fun (u : Int32 × Int32 × Int32 × Int32 × Int32 × Int32) (t : State) => match u with | (fk2, fq2, kd2, sa2, nu2, be2) => wB E (va_A [(h0, .inr (6, [.ref tk, .int fk, .int fq])), (tk, .inr (10, [.ref tp, .int kd, .int sa, .int nu, .int be])), (tp, .inr (9, [.ref by_, .int le])), (by_, .inl (E.2.1 0, 800, .inl f))] sz) [(h0, .inr (6, [.ref tk, .int fk2, .int fq2])), (tk, .inr (10, [.ref tp, .int kd2, .int sa2, .int nu2, .int be2])), (tp, .inr (9, [.ref by_, .int le])), (by_, .inl (E.2.1 0, 800, .inl f))] t) (va_A [(h0, .inr (6, [.ref tk, .int fk, .int fq])), (tk, .inr (10, [.ref tp, .int kd, .int sa, .int nu, .int be])), (tp, .inr (9, [.ref by_, .int le])), (by_, .inl (E.2.1 0, 800, .inl f))] sz)) 0 0 (va_A [(h0, .inr (6, [.ref tk, .int fk, .int fq])), (tk, .inr (10, [.ref tp, .int kd, .int sa, .int nu, .int be])), (tp, .inr (9, [.ref by_, .int le])), (by_, .inl (E.2.1 0, 800, .inl f))] sz) := by
  refine Met.ofW (cc := cX6_takeStop) (maxL := 1) (ret := (some .boolean)) (by decide) rfl ?_
  intro p e s m args below meth c s₁ B hml hv
  obtain ⟨rfl, hsz, hP, hkn, hD0, hst⟩ := hv
  have hx := B.exec
  have hb := B.bytes
  have hr := B.returns
  have hts := atoms_spec (ws := wsX6_takeStop) B.pre
  have hown : s.vm.findClass RX6 = some m.cls := findClass_of_methodNamed B.named
  have hlocks := B.notSynchronized
  subst hsz
  have hD := hD0.self (sz := s.heap.size)
  have hK := hkn.1
  have hAO := hkn.2.2.1
  generalize hAe : va_A [(h0, .inr (6, [.ref tk, .int fk, .int fq])), (tk, .inr (10, [.ref tp, .int kd, .int sa, .int nu, .int be])), (tp, .inr (9, [.ref by_, .int le])), (by_, .inl (E.2.1 0, 800, .inl f))] s.heap.size = A at hD hst ⊢
  have hA : ∀ q : Nat, s.heap.size ≤ q → A q := fun q h => by rw [← hAe]; exact Or.inr h
  have hS : va_S A s.heap s.heap [] := va_S.rf
  have hP : va_P E.1 vwCl [(h0, .inr (6, [.ref tk, .int fk, .int fq])), (tk, .inr (10, [.ref tp, .int kd, .int sa, .int nu, .int be])), (tp, .inr (9, [.ref by_, .int le])), (by_, .inl (E.2.1 0, 800, .inl f))] s.heap := hP
  have hl := lv_entry ([.ref h0]) (n := 1) (Nat.le_of_ble_eq_true rfl)
  rw [lg_entry_eq]
  generalize (lg_sl ([.ref h0]) ++ List.replicate (1 - (lg_sl ([.ref h0])).length) Slot.unset).toArray = ls at hl ⊢
  have hl : lv_has ls 1 [(0, .ref h0)] := hl
  have fl23 := hts (.fieldLink RX6 23 "BoatsHome$Reader" "tokens" "LBoatsHome$Tokens;") (by first | exact List.mem_of_getElem? (i := 1) rfl | decide +kernel)
  have fl35 := hts (.fieldLink RX6 35 "BoatsHome$Tokens" "kind" "I") (by first | exact List.mem_of_getElem? (i := 2) rfl | decide +kernel)
  have inX10 : ∀ w ∈ u_ws RX10 TX10 5, w ∈ wsX6_takeStop := by first | exact fun w h9 => (List.mem_cons_of_mem _ (List.mem_append_left _ (List.mem_append_right _ h9))) | decide +kernel
  have inX6 : ∀ w ∈ u_ws RX6 TX6 3, w ∈ wsX6_takeStop := by first | exact fun w h9 => (List.mem_cons_of_mem _ (List.mem_append_left _ (List.mem_append_left _ (List.mem_append_right _ h9)))) | decide +kernel
  refine lv_aload_n hx hb dX6_takeStop_0 rfl (lv_at hl 0 rfl) ?_
  refine va_get (D := E.1) (ci := 6) (v := .ref tk) (C := RX6) (T := TX6) (N := 3) hx hb hts inX6 hown hK hP 0 rfl rfl 0 (by decide) fl23 (fun _ h9 => h9) rfl dX6_takeStop_1 ?_
  refine va_get (D := E.1) (ci := 10) (v := .int kd) (C := RX10) (T := TX10) (N := 5) hx hb hts inX10 hown hK hP 1 rfl rfl 1 (by decide) fl35 (fun _ h9 => h9) rfl dX6_takeStop_4 ?_
  refine lv_iconst (v := 3) hx hb dX6_takeStop_7 (by decide) ?_
  refine lv_icmp_eq (tgt := 17) hx hb dX6_takeStop_8 (by decide) (fun c_1 => ?_) (fun c_1 => ?_)
  · refine lv_aload_n hx hb dX6_takeStop_17 rfl (lv_at hl 0 rfl) ?_
    refine va_get (D := E.1) (ci := 6) (v := .ref tk) (C := RX6) (T := TX6) (N := 3) hx hb hts inX6 hown hK hP 0 rfl rfl 0 (by decide) fl23 (fun _ h9 => h9) rfl dX6_takeStop_18 ?_
    have hPc := hP.sub (ws' := [(tk, .inr (10, [.ref tp, .int kd, .int sa, .int nu, .int be])), (tp, .inr (9, [.ref by_, .int le])), (by_, .inl (E.2.1 0, 800, .inl f))]) [1, 2, 3] rfl
    have hDc := hD.sub (ws' := [(tk, .inr (10, [.ref tp, .int kd, .int sa, .int nu, .int be])), (tp, .inr (9, [.ref by_, .int le])), (by_, .inl (E.2.1 0, 800, .inl f))]) [1, 2, 3] (by decide) rfl
    have hFc := va_free (wc := [(tk, .inr (10, [.ref tp, .int kd, .int sa, .int nu, .int be])), (tp, .inr (9, [.ref by_, .int le])), (by_, .inl (E.2.1 0, 800, .inl f))]) hD hS hA [1, 2, 3] rfl
    refine va_callv (va_runV (As := []) (rest := []) ⟨hx, hb, hml, hown, hts⟩ (c_X10_advance l E tk tp by_ kd sa nu be le f s.heap.size ) (cwV 0 hts gX6_takeStop_X10_advance rfl rfl rfl hdV_X10_advance ⟨Nat.le_of_ble_eq_true rfl, Nat.le_of_ble_eq_true rfl⟩) ⟨pcW_blind, va_recv hK hPc (ci := 10) (q0 := 0) rfl rfl, (pcW_pre hPc hkn hDc hst hS hFc)⟩ rfl rfl hl.1 rfl (lv_room (Nat.le_of_ble_eq_true rfl)) dX6_takeStop_21 ⟨Nat.le_of_ble_eq_true rfl, Nat.le_of_ble_eq_true rfl⟩) hS (fun q _ h => hFc q h) hFc (fun u t H1 locs ht hvm hw_3 hB hz1 hk1 hS => ?_)
    obtain ⟨u_4, u_5, u_6, u_7⟩ := u
    obtain ⟨hP1, hD1⟩ := hB
    rw [ht] at hP1
    try dsimp only at hw_3
    obtain ⟨hP, hD⟩ := va_join (wr := [(h0, .inr (6, [.ref tk, .int fk, .int fq]))]) (w1 := [(tk, .inr (10, [.ref tp, .int u_4, .int u_5, .int u_6, .int u_7])), (tp, .inr (9, [.ref by_, .int le])), (by_, .inl (E.2.1 0, 800, .inl f))]) hP hD [1, 2, 3] [0] rfl rfl (by decide) (by decide) hk1 hFc hP1 hD1
    generalize H1 = H at hP hS ⊢
    have hP : va_P E.1 vwCl [(h0, .inr (6, [.ref tk, .int fk, .int fq])), (tk, .inr (10, [.ref tp, .int u_4, .int u_5, .int u_6, .int u_7])), (tp, .inr (9, [.ref by_, .int le])), (by_, .inl (E.2.1 0, 800, .inl f))] H := hP
    have hD : va_D A [(h0, .inr (6, [.ref tk, .int fk, .int fq])), (tk, .inr (10, [.ref tp, .int u_4, .int u_5, .int u_6, .int u_7])), (tp, .inr (9, [.ref by_, .int le])), (by_, .inl (E.2.1 0, 800, .inl f))] := hD
    refine lv_iconst (v := 1) hx hb dX6_takeStop_24 (by decide) ?_
    have hP9 := hP.sub (ws' := [(h0, .inr (6, [.ref tk, .int fk, .int fq])), (tk, .inr (10, [.ref tp, .int u_4, .int u_5, .int u_6, .int u_7])), (tp, .inr (9, [.ref by_, .int le])), (by_, .inl (E.2.1 0, 800, .inl f))]) [0, 1, 2, 3] rfl
    have hD9 := hD.sub (ws' := [(h0, .inr (6, [.ref tk, .int fk, .int fq])), (tk, .inr (10, [.ref tp, .int u_4, .int u_5, .int u_6, .int u_7])), (tp, .inr (9, [.ref by_, .int le])), (by_, .inl (E.2.1 0, 800, .inl f))]) [0, 1, 2, 3] (by decide) rfl
    exact W.zret (v := 1) hx hb hr (by decide) (fun t ht hW => ⟨⟨1, (fk, fq, u_4, u_5, u_6, u_7), rfl, Or.inr rfl, by rw [ht]; exact hP9, hD9⟩, hS.F ht⟩) hS.2.2 dX6_takeStop_25
  · refine lv_aload_n hx hb dX6_takeStop_11 rfl (lv_at hl 0 rfl) ?_
    refine lv_iconst (v := 1) hx hb dX6_takeStop_12 (by decide) ?_
    have hPc := hP.sub (ws' := [(h0, .inr (6, [.ref tk, .int fk, .int fq])), (tk, .inr (10, [.ref tp, .int kd, .int sa, .int nu, .int be])), (tp, .inr (9, [.ref by_, .int le])), (by_, .inl (E.2.1 0, 800, .inl f))]) [0, 1, 2, 3] rfl
    have hDc := hD.sub (ws' := [(h0, .inr (6, [.ref tk, .int fk, .int fq])), (tk, .inr (10, [.ref tp, .int kd, .int sa, .int nu, .int be])), (tp, .inr (9, [.ref by_, .int le])), (by_, .inl (E.2.1 0, 800, .inl f))]) [0, 1, 2, 3] (by decide) rfl
    have hFc := va_free (wc := [(h0, .inr (6, [.ref tk, .int fk, .int fq])), (tk, .inr (10, [.ref tp, .int kd, .int sa, .int nu, .int be])), (tp, .inr (9, [.ref by_, .int le])), (by_, .inl (E.2.1 0, 800, .inl f))]) hD hS hA [0, 1, 2, 3] rfl
    refine va_calli (va_runV (As := [.int 1]) (rest := []) ⟨hx, hb, hml, hown, hts⟩ (c_X6_refuse l E h0 tk tp by_ fk fq kd sa nu be le f 1 s.heap.size ) (cwV 1 hts gX6_takeStop_X6_refuse rfl rfl rfl hdV_X6_refuse ⟨Nat.le_of_ble_eq_true rfl, Nat.le_of_ble_eq_true rfl⟩) ⟨pcW_blind, va_recv hK hPc (ci := 6) (q0 := 0) rfl rfl, (pcW_pre hPc hkn hDc hst hS hFc)⟩ rfl rfl hl.1 rfl (lv_room (Nat.le_of_ble_eq_true rfl)) dX6_takeStop_13 ⟨Nat.le_of_ble_eq_true rfl, Nat.le_of_ble_eq_true rfl⟩) hS (fun q _ h => hFc q h) hFc (fun r_8 u t H1 locs ht hvm hw_9 hB hz1 hk1 hS => ?_)
    obtain ⟨u_10, u_11⟩ := u
    obtain ⟨hP1, hD1⟩ := hB
    rw [ht] at hP1
    try dsimp only at hw_9
    obtain ⟨hP, hD⟩ := va_join (wr := []) (w1 := [(h0, .inr (6, [.ref tk, .int u_10, .int u_11])), (tk, .inr (10, [.ref tp, .int kd, .int sa, .int nu, .int be])), (tp, .inr (9, [.ref by_, .int le])), (by_, .inl (E.2.1 0, 800, .inl f))]) hP hD [0, 1, 2, 3] [] rfl rfl (by decide) (by decide) hk1 hFc hP1 hD1
    generalize H1 = H at hP hS ⊢
    have hP : va_P E.1 vwCl [(h0, .inr (6, [.ref tk, .int u_10, .int u_11])), (tk, .inr (10, [.ref tp, .int kd, .int sa, .int nu, .int be])), (tp, .inr (9, [.ref by_, .int le])), (by_, .inl (E.2.1 0, 800, .inl f))] H := hP
    have hD : va_D A [(h0, .inr (6, [.ref tk, .int u_10, .int u_11])), (tk, .inr (10, [.ref tp, .int kd, .int sa, .int nu, .int be])), (tp, .inr (9, [.ref by_, .int le])), (by_, .inl (E.2.1 0, 800, .inl f))] := hD
    obtain rfl : r_8 = 0 := hw_9
    have hP9 := hP.sub (ws' := [(h0, .inr (6, [.ref tk, .int u_10, .int u_11])), (tk, .inr (10, [.ref tp, .int kd, .int sa, .int nu, .int be])), (tp, .inr (9, [.ref by_, .int le])), (by_, .inl (E.2.1 0, 800, .inl f))]) [0, 1, 2, 3] rfl
    have hD9 := hD.sub (ws' := [(h0, .inr (6, [.ref tk, .int u_10, .int u_11])), (tk, .inr (10, [.ref tp, .int kd, .int sa, .int nu, .int be])), (tp, .inr (9, [.ref by_, .int le])), (by_, .inl (E.2.1 0, 800, .inl f))]) [0, 1, 2, 3] (by decide) rfl
    exact W.zret (v := 0) hx hb hr (by decide) (fun t ht hW => ⟨⟨0, (u_10, u_11, kd, sa, nu, be), rfl, Or.inl rfl, by rw [ht]; exact hP9, hD9⟩, hS.F ht⟩) hS.2.2 dX6_takeStop_16
set_option maxHeartbeats 4000000 in
set_option maxRecDepth 100000 in
theorem c_X6_takeNumber (l : Launch) (E : vE) (h0 : Nat) (tk : Nat) (tp : Nat) (by_ : Nat) (fk : Int32) (fq : Int32) (kd : Int32) (sa : Int32) (nu : Int32) (be : Int32) (le : Int32) (f : Nat → Int32) (most : Int32) (sz : Nat) : Met l yX6_takeNumber wsX6_takeNumber ({ frames := 5, cells := 0, slots := 0, locals := 107 }) (pcW E [.ref h0, .int most] sz [(h0, .inr (6, [.ref tk, .int fk, .int fq])), (tk, .inr (10, [.ref tp, .int kd, .int sa, .int nu, .int be])), (tp, .inr (9, [.ref by_, .int le])), (by_, .inl (E.2.1 0, 800, .inl f))]) (va_Qi (fun (r : Int32) (u : Int32 × Int32 × Int32 × Int32 × Int32 × Int32) => match u with | (fk2, fq2, kd2, sa2, nu2, be2) => True) (fun (u : Int32 × Int32 × Int32 × Int32 × Int32 × Int32) (t : State) => match u with | (fk2, fq2, kd2, sa2, nu2, be2) => wB E (va_A [(h0, .inr (6, [.ref tk, .int fk, .int fq])), (tk, .inr (10, [.ref tp, .int kd, .int sa, .int nu, .int be])), (tp, .inr (9, [.ref by_, .int le])), (by_, .inl (E.2.1 0, 800, .inl f))] sz) [(h0, .inr (6, [.ref tk, .int fk2, .int fq2])), (tk, .inr (10, [.ref tp, .int kd2, .int sa2, .int nu2, .int be2])), (tp, .inr (9, [.ref by_, .int le])), (by_, .inl (E.2.1 0, 800, .inl f))] t) (va_A [(h0, .inr (6, [.ref tk, .int fk, .int fq])), (tk, .inr (10, [.ref tp, .int kd, .int sa, .int nu, .int be])), (tp, .inr (9, [.ref by_, .int le])), (by_, .inl (E.2.1 0, 800, .inl f))] sz)) 0 0 (va_A [(h0, .inr (6, [.ref tk, .int fk, .int fq])), (tk, .inr (10, [.ref tp, .int kd, .int sa, .int nu, .int be])), (tp, .inr (9, [.ref by_, .int le])), (by_, .inl (E.2.1 0, 800, .inl f))] sz) := by
  refine Met.ofW (cc := cX6_takeNumber) (maxL := 3) (ret := (some .int)) (by decide) rfl ?_
  intro p e s m args below meth c s₁ B hml hv
  obtain ⟨rfl, hsz, hP, hkn, hD0, hst⟩ := hv
  have hx := B.exec
  have hb := B.bytes
  have hr := B.returns
  have hts := atoms_spec (ws := wsX6_takeNumber) B.pre
  have hown : s.vm.findClass RX6 = some m.cls := findClass_of_methodNamed B.named
  have hlocks := B.notSynchronized
  subst hsz
  have hD := hD0.self (sz := s.heap.size)
  have hK := hkn.1
  have hAO := hkn.2.2.1
  generalize hAe : va_A [(h0, .inr (6, [.ref tk, .int fk, .int fq])), (tk, .inr (10, [.ref tp, .int kd, .int sa, .int nu, .int be])), (tp, .inr (9, [.ref by_, .int le])), (by_, .inl (E.2.1 0, 800, .inl f))] s.heap.size = A at hD hst ⊢
  have hA : ∀ q : Nat, s.heap.size ≤ q → A q := fun q h => by rw [← hAe]; exact Or.inr h
  have hS : va_S A s.heap s.heap [] := va_S.rf
  have hP : va_P E.1 vwCl [(h0, .inr (6, [.ref tk, .int fk, .int fq])), (tk, .inr (10, [.ref tp, .int kd, .int sa, .int nu, .int be])), (tp, .inr (9, [.ref by_, .int le])), (by_, .inl (E.2.1 0, 800, .inl f))] s.heap := hP
  have hl := lv_entry ([.ref h0, .int most]) (n := 3) (Nat.le_of_ble_eq_true rfl)
  rw [lg_entry_eq]
  generalize (lg_sl ([.ref h0, .int most]) ++ List.replicate (3 - (lg_sl ([.ref h0, .int most])).length) Slot.unset).toArray = ls at hl ⊢
  have hl : lv_has ls 3 [(0, .ref h0), (1, .int most)] := hl
  have fl23 := hts (.fieldLink RX6 23 "BoatsHome$Reader" "tokens" "LBoatsHome$Tokens;") (by first | exact List.mem_of_getElem? (i := 1) rfl | decide +kernel)
  have fl35 := hts (.fieldLink RX6 35 "BoatsHome$Tokens" "kind" "I") (by first | exact List.mem_of_getElem? (i := 2) rfl | decide +kernel)
  have fl147 := hts (.fieldLink RX6 147 "BoatsHome$Tokens" "number" "I") (by first | exact List.mem_of_getElem? (i := 3) rfl | decide +kernel)
  have inX10 : ∀ w ∈ u_ws RX10 TX10 5, w ∈ wsX6_takeNumber := by first | exact fun w h9 => (List.mem_cons_of_mem _ (List.mem_append_left _ (List.mem_append_right _ h9))) | decide +kernel
  have inX6 : ∀ w ∈ u_ws RX6 TX6 3, w ∈ wsX6_takeNumber := by first | exact fun w h9 => (List.mem_cons_of_mem _ (List.mem_append_left _ (List.mem_append_left _ (List.mem_append_right _ h9)))) | decide +kernel
  refine lv_aload_n hx hb dX6_takeNumber_0 rfl (lv_at hl 0 rfl) ?_
  refine va_get (D := E.1) (ci := 6) (v := .ref tk) (C := RX6) (T := TX6) (N := 3) hx hb hts inX6 hown hK hP 0 rfl rfl 0 (by decide) fl23 (fun _ h9 => h9) rfl dX6_takeNumber_1 ?_
  refine va_get (D := E.1) (ci := 10) (v := .int kd) (C := RX10) (T := TX10) (N := 5) hx hb hts inX10 hown hK hP 1 rfl rfl 1 (by decide) fl35 (fun _ h9 => h9) rfl dX6_takeNumber_4 ?_
  refine lv_iconst (v := 2) hx hb dX6_takeNumber_7 (by decide) ?_
  refine lv_icmp_ne (tgt := 22) hx hb dX6_takeNumber_8 (by decide) (fun c_1 => ?_) (fun c_1 => ?_)
  · refine lv_aload_n hx hb dX6_takeNumber_22 rfl (lv_at hl 0 rfl) ?_
    refine lv_aload_n hx hb dX6_takeNumber_23 rfl (lv_at hl 0 rfl) ?_
    refine va_get (D := E.1) (ci := 6) (v := .ref tk) (C := RX6) (T := TX6) (N := 3) hx hb hts inX6 hown hK hP 0 rfl rfl 0 (by decide) fl23 (fun _ h9 => h9) rfl dX6_takeNumber_24 ?_
    refine va_get (D := E.1) (ci := 10) (v := .int kd) (C := RX10) (T := TX10) (N := 5) hx hb hts inX10 hown hK hP 1 rfl rfl 1 (by decide) fl35 (fun _ h9 => h9) rfl dX6_takeNumber_27 ?_
    refine lv_iconst (v := 2) hx hb dX6_takeNumber_30 (by decide) ?_
    refine lv_icmp_eq (tgt := 38) hx hb dX6_takeNumber_31 (by decide) (fun c_2 => ?_) (fun c_2 => ?_)
    · refine lv_iconst (v := 2) hx hb dX6_takeNumber_38 (by decide) ?_
      have hPc := hP.sub (ws' := [(h0, .inr (6, [.ref tk, .int fk, .int fq])), (tk, .inr (10, [.ref tp, .int kd, .int sa, .int nu, .int be])), (tp, .inr (9, [.ref by_, .int le])), (by_, .inl (E.2.1 0, 800, .inl f))]) [0, 1, 2, 3] rfl
      have hDc := hD.sub (ws' := [(h0, .inr (6, [.ref tk, .int fk, .int fq])), (tk, .inr (10, [.ref tp, .int kd, .int sa, .int nu, .int be])), (tp, .inr (9, [.ref by_, .int le])), (by_, .inl (E.2.1 0, 800, .inl f))]) [0, 1, 2, 3] (by decide) rfl
      have hFc := va_free (wc := [(h0, .inr (6, [.ref tk, .int fk, .int fq])), (tk, .inr (10, [.ref tp, .int kd, .int sa, .int nu, .int be])), (tp, .inr (9, [.ref by_, .int le])), (by_, .inl (E.2.1 0, 800, .inl f))]) hD hS hA [0, 1, 2, 3] rfl
      refine va_calli (va_runV (As := [.int 2]) (rest := []) ⟨hx, hb, hml, hown, hts⟩ (c_X6_refuse l E h0 tk tp by_ fk fq kd sa nu be le f 2 s.heap.size ) (cwV 1 hts gX6_takeNumber_X6_refuse rfl rfl rfl hdV_X6_refuse ⟨Nat.le_of_ble_eq_true rfl, Nat.le_of_ble_eq_true rfl⟩) ⟨pcW_blind, va_recv hK hPc (ci := 6) (q0 := 0) rfl rfl, (pcW_pre hPc hkn hDc hst hS hFc)⟩ rfl rfl hl.1 rfl (lv_room (Nat.le_of_ble_eq_true rfl)) dX6_takeNumber_39 ⟨Nat.le_of_ble_eq_true rfl, Nat.le_of_ble_eq_true rfl⟩) hS (fun q _ h => hFc q h) hFc (fun r_3 u t H1 locs ht hvm hw_4 hB hz1 hk1 hS => ?_)
      obtain ⟨u_5, u_6⟩ := u
      obtain ⟨hP1, hD1⟩ := hB
      rw [ht] at hP1
      try dsimp only at hw_4
      obtain ⟨hP, hD⟩ := va_join (wr := []) (w1 := [(h0, .inr (6, [.ref tk, .int u_5, .int u_6])), (tk, .inr (10, [.ref tp, .int kd, .int sa, .int nu, .int be])), (tp, .inr (9, [.ref by_, .int le])), (by_, .inl (E.2.1 0, 800, .inl f))]) hP hD [0, 1, 2, 3] [] rfl rfl (by decide) (by decide) hk1 hFc hP1 hD1
      generalize H1 = H at hP hS ⊢
      have hP : va_P E.1 vwCl [(h0, .inr (6, [.ref tk, .int u_5, .int u_6])), (tk, .inr (10, [.ref tp, .int kd, .int sa, .int nu, .int be])), (tp, .inr (9, [.ref by_, .int le])), (by_, .inl (E.2.1 0, 800, .inl f))] H := hP
      have hD : va_D A [(h0, .inr (6, [.ref tk, .int u_5, .int u_6])), (tk, .inr (10, [.ref tp, .int kd, .int sa, .int nu, .int be])), (tp, .inr (9, [.ref by_, .int le])), (by_, .inl (E.2.1 0, 800, .inl f))] := hD
      obtain rfl : r_3 = 0 := hw_4
      refine lv_pop hx hb dX6_takeNumber_42 rfl ?_
      refine lv_iconst (v := (-1)) hx hb dX6_takeNumber_43 (by decide) ?_
      have hP9 := hP.sub (ws' := [(h0, .inr (6, [.ref tk, .int u_5, .int u_6])), (tk, .inr (10, [.ref tp, .int kd, .int sa, .int nu, .int be])), (tp, .inr (9, [.ref by_, .int le])), (by_, .inl (E.2.1 0, 800, .inl f))]) [0, 1, 2, 3] rfl
      have hD9 := hD.sub (ws' := [(h0, .inr (6, [.ref tk, .int u_5, .int u_6])), (tk, .inr (10, [.ref tp, .int kd, .int sa, .int nu, .int be])), (tp, .inr (9, [.ref by_, .int le])), (by_, .inl (E.2.1 0, 800, .inl f))]) [0, 1, 2, 3] (by decide) rfl
      exact W.iret (v := (-1)) hx hb hr (fun t ht hW => ⟨⟨(-1), (u_5, u_6, kd, sa, nu, be), rfl, trivial, by rw [ht]; exact hP9, hD9⟩, hS.F ht⟩) hS.2.2 dX6_takeNumber_44
    · refine lv_iconst (v := 1) hx hb dX6_takeNumber_34 (by decide) ?_
      refine lv_goto (tgt := 39) hx hb dX6_takeNumber_35 (by decide) ?_
      have hPc := hP.sub (ws' := [(h0, .inr (6, [.ref tk, .int fk, .int fq])), (tk, .inr (10, [.ref tp, .int kd, .int sa, .int nu, .int be])), (tp, .inr (9, [.ref by_, .int le])), (by_, .inl (E.2.1 0, 800, .inl f))]) [0, 1, 2, 3] rfl
      have hDc := hD.sub (ws' := [(h0, .inr (6, [.ref tk, .int fk, .int fq])), (tk, .inr (10, [.ref tp, .int kd, .int sa, .int nu, .int be])), (tp, .inr (9, [.ref by_, .int le])), (by_, .inl (E.2.1 0, 800, .inl f))]) [0, 1, 2, 3] (by decide) rfl
      have hFc := va_free (wc := [(h0, .inr (6, [.ref tk, .int fk, .int fq])), (tk, .inr (10, [.ref tp, .int kd, .int sa, .int nu, .int be])), (tp, .inr (9, [.ref by_, .int le])), (by_, .inl (E.2.1 0, 800, .inl f))]) hD hS hA [0, 1, 2, 3] rfl
      refine va_calli (va_runV (As := [.int 1]) (rest := []) ⟨hx, hb, hml, hown, hts⟩ (c_X6_refuse l E h0 tk tp by_ fk fq kd sa nu be le f 1 s.heap.size ) (cwV 1 hts gX6_takeNumber_X6_refuse rfl rfl rfl hdV_X6_refuse ⟨Nat.le_of_ble_eq_true rfl, Nat.le_of_ble_eq_true rfl⟩) ⟨pcW_blind, va_recv hK hPc (ci := 6) (q0 := 0) rfl rfl, (pcW_pre hPc hkn hDc hst hS hFc)⟩ rfl rfl hl.1 rfl (lv_room (Nat.le_of_ble_eq_true rfl)) dX6_takeNumber_39 ⟨Nat.le_of_ble_eq_true rfl, Nat.le_of_ble_eq_true rfl⟩) hS (fun q _ h => hFc q h) hFc (fun r_7 u t H1 locs ht hvm hw_8 hB hz1 hk1 hS => ?_)
      obtain ⟨u_9, u_10⟩ := u
      obtain ⟨hP1, hD1⟩ := hB
      rw [ht] at hP1
      try dsimp only at hw_8
      obtain ⟨hP, hD⟩ := va_join (wr := []) (w1 := [(h0, .inr (6, [.ref tk, .int u_9, .int u_10])), (tk, .inr (10, [.ref tp, .int kd, .int sa, .int nu, .int be])), (tp, .inr (9, [.ref by_, .int le])), (by_, .inl (E.2.1 0, 800, .inl f))]) hP hD [0, 1, 2, 3] [] rfl rfl (by decide) (by decide) hk1 hFc hP1 hD1
      generalize H1 = H at hP hS ⊢
      have hP : va_P E.1 vwCl [(h0, .inr (6, [.ref tk, .int u_9, .int u_10])), (tk, .inr (10, [.ref tp, .int kd, .int sa, .int nu, .int be])), (tp, .inr (9, [.ref by_, .int le])), (by_, .inl (E.2.1 0, 800, .inl f))] H := hP
      have hD : va_D A [(h0, .inr (6, [.ref tk, .int u_9, .int u_10])), (tk, .inr (10, [.ref tp, .int kd, .int sa, .int nu, .int be])), (tp, .inr (9, [.ref by_, .int le])), (by_, .inl (E.2.1 0, 800, .inl f))] := hD
      obtain rfl : r_7 = 0 := hw_8
      refine lv_pop hx hb dX6_takeNumber_42 rfl ?_
      refine lv_iconst (v := (-1)) hx hb dX6_takeNumber_43 (by decide) ?_
      have hP9 := hP.sub (ws' := [(h0, .inr (6, [.ref tk, .int u_9, .int u_10])), (tk, .inr (10, [.ref tp, .int kd, .int sa, .int nu, .int be])), (tp, .inr (9, [.ref by_, .int le])), (by_, .inl (E.2.1 0, 800, .inl f))]) [0, 1, 2, 3] rfl
      have hD9 := hD.sub (ws' := [(h0, .inr (6, [.ref tk, .int u_9, .int u_10])), (tk, .inr (10, [.ref tp, .int kd, .int sa, .int nu, .int be])), (tp, .inr (9, [.ref by_, .int le])), (by_, .inl (E.2.1 0, 800, .inl f))]) [0, 1, 2, 3] (by decide) rfl
      exact W.iret (v := (-1)) hx hb hr (fun t ht hW => ⟨⟨(-1), (u_9, u_10, kd, sa, nu, be), rfl, trivial, by rw [ht]; exact hP9, hD9⟩, hS.F ht⟩) hS.2.2 dX6_takeNumber_44
  · refine lv_aload_n hx hb dX6_takeNumber_11 rfl (lv_at hl 0 rfl) ?_
    refine va_get (D := E.1) (ci := 6) (v := .ref tk) (C := RX6) (T := TX6) (N := 3) hx hb hts inX6 hown hK hP 0 rfl rfl 0 (by decide) fl23 (fun _ h9 => h9) rfl dX6_takeNumber_12 ?_
    refine va_get (D := E.1) (ci := 10) (v := .int nu) (C := RX10) (T := TX10) (N := 5) hx hb hts inX10 hown hK hP 1 rfl rfl 3 (by decide) fl147 (fun _ h9 => h9) rfl dX6_takeNumber_15 ?_
    refine lv_iload_n hx hb dX6_takeNumber_18 rfl (lv_at hl 1 rfl) ?_
    refine lv_icmp_le (tgt := 45) hx hb dX6_takeNumber_19 (by decide) (fun c_11 => ?_) (fun c_11 => ?_)
    · refine lv_aload_n hx hb dX6_takeNumber_45 rfl (lv_at hl 0 rfl) ?_
      refine va_get (D := E.1) (ci := 6) (v := .ref tk) (C := RX6) (T := TX6) (N := 3) hx hb hts inX6 hown hK hP 0 rfl rfl 0 (by decide) fl23 (fun _ h9 => h9) rfl dX6_takeNumber_46 ?_
      refine va_get (D := E.1) (ci := 10) (v := .int nu) (C := RX10) (T := TX10) (N := 5) hx hb hts inX10 hown hK hP 1 rfl rfl 3 (by decide) fl147 (fun _ h9 => h9) rfl dX6_takeNumber_49 ?_
      refine lv_istore_n (lv' := [(2, .int nu), (0, .ref h0), (1, .int most)]) hx hb dX6_takeNumber_52 rfl hl (by decide) rfl (fun ls hl => ?_)
      refine lv_aload_n hx hb dX6_takeNumber_53 rfl (lv_at hl 1 rfl) ?_
      refine va_get (D := E.1) (ci := 6) (v := .ref tk) (C := RX6) (T := TX6) (N := 3) hx hb hts inX6 hown hK hP 0 rfl rfl 0 (by decide) fl23 (fun _ h9 => h9) rfl dX6_takeNumber_54 ?_
      have hPc := hP.sub (ws' := [(tk, .inr (10, [.ref tp, .int kd, .int sa, .int nu, .int be])), (tp, .inr (9, [.ref by_, .int le])), (by_, .inl (E.2.1 0, 800, .inl f))]) [1, 2, 3] rfl
      have hDc := hD.sub (ws' := [(tk, .inr (10, [.ref tp, .int kd, .int sa, .int nu, .int be])), (tp, .inr (9, [.ref by_, .int le])), (by_, .inl (E.2.1 0, 800, .inl f))]) [1, 2, 3] (by decide) rfl
      have hFc := va_free (wc := [(tk, .inr (10, [.ref tp, .int kd, .int sa, .int nu, .int be])), (tp, .inr (9, [.ref by_, .int le])), (by_, .inl (E.2.1 0, 800, .inl f))]) hD hS hA [1, 2, 3] rfl
      refine va_callv (va_runV (As := []) (rest := []) ⟨hx, hb, hml, hown, hts⟩ (c_X10_advance l E tk tp by_ kd sa nu be le f s.heap.size ) (cwV 0 hts gX6_takeNumber_X10_advance rfl rfl rfl hdV_X10_advance ⟨Nat.le_of_ble_eq_true rfl, Nat.le_of_ble_eq_true rfl⟩) ⟨pcW_blind, va_recv hK hPc (ci := 10) (q0 := 0) rfl rfl, (pcW_pre hPc hkn hDc hst hS hFc)⟩ rfl rfl hl.1 rfl (lv_room (Nat.le_of_ble_eq_true rfl)) dX6_takeNumber_57 ⟨Nat.le_of_ble_eq_true rfl, Nat.le_of_ble_eq_true rfl⟩) hS (fun q _ h => hFc q h) hFc (fun u t H1 locs ht hvm hw_13 hB hz1 hk1 hS => ?_)
      obtain ⟨u_14, u_15, u_16, u_17⟩ := u
      obtain ⟨hP1, hD1⟩ := hB
      rw [ht] at hP1
      try dsimp only at hw_13
      obtain ⟨hP, hD⟩ := va_join (wr := [(h0, .inr (6, [.ref tk, .int fk, .int fq]))]) (w1 := [(tk, .inr (10, [.ref tp, .int u_14, .int u_15, .int u_16, .int u_17])), (tp, .inr (9, [.ref by_, .int le])), (by_, .inl (E.2.1 0, 800, .inl f))]) hP hD [1, 2, 3] [0] rfl rfl (by decide) (by decide) hk1 hFc hP1 hD1
      generalize H1 = H at hP hS ⊢
      have hP : va_P E.1 vwCl [(h0, .inr (6, [.ref tk, .int fk, .int fq])), (tk, .inr (10, [.ref tp, .int u_14, .int u_15, .int u_16, .int u_17])), (tp, .inr (9, [.ref by_, .int le])), (by_, .inl (E.2.1 0, 800, .inl f))] H := hP
      have hD : va_D A [(h0, .inr (6, [.ref tk, .int fk, .int fq])), (tk, .inr (10, [.ref tp, .int u_14, .int u_15, .int u_16, .int u_17])), (tp, .inr (9, [.ref by_, .int le])), (by_, .inl (E.2.1 0, 800, .inl f))] := hD
      refine lv_iload_n hx hb dX6_takeNumber_60 rfl (lv_at hl 0 rfl) ?_
      have hP9 := hP.sub (ws' := [(h0, .inr (6, [.ref tk, .int fk, .int fq])), (tk, .inr (10, [.ref tp, .int u_14, .int u_15, .int u_16, .int u_17])), (tp, .inr (9, [.ref by_, .int le])), (by_, .inl (E.2.1 0, 800, .inl f))]) [0, 1, 2, 3] rfl
      have hD9 := hD.sub (ws' := [(h0, .inr (6, [.ref tk, .int fk, .int fq])), (tk, .inr (10, [.ref tp, .int u_14, .int u_15, .int u_16, .int u_17])), (tp, .inr (9, [.ref by_, .int le])), (by_, .inl (E.2.1 0, 800, .inl f))]) [0, 1, 2, 3] (by decide) rfl
      exact W.iret (v := nu) hx hb hr (fun t ht hW => ⟨⟨nu, (fk, fq, u_14, u_15, u_16, u_17), rfl, trivial, by rw [ht]; exact hP9, hD9⟩, hS.F ht⟩) hS.2.2 dX6_takeNumber_61
    · refine lv_aload_n hx hb dX6_takeNumber_22 rfl (lv_at hl 0 rfl) ?_
      refine lv_aload_n hx hb dX6_takeNumber_23 rfl (lv_at hl 0 rfl) ?_
      refine va_get (D := E.1) (ci := 6) (v := .ref tk) (C := RX6) (T := TX6) (N := 3) hx hb hts inX6 hown hK hP 0 rfl rfl 0 (by decide) fl23 (fun _ h9 => h9) rfl dX6_takeNumber_24 ?_
      refine va_get (D := E.1) (ci := 10) (v := .int kd) (C := RX10) (T := TX10) (N := 5) hx hb hts inX10 hown hK hP 1 rfl rfl 1 (by decide) fl35 (fun _ h9 => h9) rfl dX6_takeNumber_27 ?_
      refine lv_iconst (v := 2) hx hb dX6_takeNumber_30 (by decide) ?_
      refine lv_icmp_eq (tgt := 38) hx hb dX6_takeNumber_31 (by decide) (fun c_18 => ?_) (fun c_18 => ?_)
      · refine lv_iconst (v := 2) hx hb dX6_takeNumber_38 (by decide) ?_
        have hPc := hP.sub (ws' := [(h0, .inr (6, [.ref tk, .int fk, .int fq])), (tk, .inr (10, [.ref tp, .int kd, .int sa, .int nu, .int be])), (tp, .inr (9, [.ref by_, .int le])), (by_, .inl (E.2.1 0, 800, .inl f))]) [0, 1, 2, 3] rfl
        have hDc := hD.sub (ws' := [(h0, .inr (6, [.ref tk, .int fk, .int fq])), (tk, .inr (10, [.ref tp, .int kd, .int sa, .int nu, .int be])), (tp, .inr (9, [.ref by_, .int le])), (by_, .inl (E.2.1 0, 800, .inl f))]) [0, 1, 2, 3] (by decide) rfl
        have hFc := va_free (wc := [(h0, .inr (6, [.ref tk, .int fk, .int fq])), (tk, .inr (10, [.ref tp, .int kd, .int sa, .int nu, .int be])), (tp, .inr (9, [.ref by_, .int le])), (by_, .inl (E.2.1 0, 800, .inl f))]) hD hS hA [0, 1, 2, 3] rfl
        refine va_calli (va_runV (As := [.int 2]) (rest := []) ⟨hx, hb, hml, hown, hts⟩ (c_X6_refuse l E h0 tk tp by_ fk fq kd sa nu be le f 2 s.heap.size ) (cwV 1 hts gX6_takeNumber_X6_refuse rfl rfl rfl hdV_X6_refuse ⟨Nat.le_of_ble_eq_true rfl, Nat.le_of_ble_eq_true rfl⟩) ⟨pcW_blind, va_recv hK hPc (ci := 6) (q0 := 0) rfl rfl, (pcW_pre hPc hkn hDc hst hS hFc)⟩ rfl rfl hl.1 rfl (lv_room (Nat.le_of_ble_eq_true rfl)) dX6_takeNumber_39 ⟨Nat.le_of_ble_eq_true rfl, Nat.le_of_ble_eq_true rfl⟩) hS (fun q _ h => hFc q h) hFc (fun r_19 u t H1 locs ht hvm hw_20 hB hz1 hk1 hS => ?_)
        obtain ⟨u_21, u_22⟩ := u
        obtain ⟨hP1, hD1⟩ := hB
        rw [ht] at hP1
        try dsimp only at hw_20
        obtain ⟨hP, hD⟩ := va_join (wr := []) (w1 := [(h0, .inr (6, [.ref tk, .int u_21, .int u_22])), (tk, .inr (10, [.ref tp, .int kd, .int sa, .int nu, .int be])), (tp, .inr (9, [.ref by_, .int le])), (by_, .inl (E.2.1 0, 800, .inl f))]) hP hD [0, 1, 2, 3] [] rfl rfl (by decide) (by decide) hk1 hFc hP1 hD1
        generalize H1 = H at hP hS ⊢
        have hP : va_P E.1 vwCl [(h0, .inr (6, [.ref tk, .int u_21, .int u_22])), (tk, .inr (10, [.ref tp, .int kd, .int sa, .int nu, .int be])), (tp, .inr (9, [.ref by_, .int le])), (by_, .inl (E.2.1 0, 800, .inl f))] H := hP
        have hD : va_D A [(h0, .inr (6, [.ref tk, .int u_21, .int u_22])), (tk, .inr (10, [.ref tp, .int kd, .int sa, .int nu, .int be])), (tp, .inr (9, [.ref by_, .int le])), (by_, .inl (E.2.1 0, 800, .inl f))] := hD
        obtain rfl : r_19 = 0 := hw_20
        refine lv_pop hx hb dX6_takeNumber_42 rfl ?_
        refine lv_iconst (v := (-1)) hx hb dX6_takeNumber_43 (by decide) ?_
        have hP9 := hP.sub (ws' := [(h0, .inr (6, [.ref tk, .int u_21, .int u_22])), (tk, .inr (10, [.ref tp, .int kd, .int sa, .int nu, .int be])), (tp, .inr (9, [.ref by_, .int le])), (by_, .inl (E.2.1 0, 800, .inl f))]) [0, 1, 2, 3] rfl
        have hD9 := hD.sub (ws' := [(h0, .inr (6, [.ref tk, .int u_21, .int u_22])), (tk, .inr (10, [.ref tp, .int kd, .int sa, .int nu, .int be])), (tp, .inr (9, [.ref by_, .int le])), (by_, .inl (E.2.1 0, 800, .inl f))]) [0, 1, 2, 3] (by decide) rfl
        exact W.iret (v := (-1)) hx hb hr (fun t ht hW => ⟨⟨(-1), (u_21, u_22, kd, sa, nu, be), rfl, trivial, by rw [ht]; exact hP9, hD9⟩, hS.F ht⟩) hS.2.2 dX6_takeNumber_44
      · refine lv_iconst (v := 1) hx hb dX6_takeNumber_34 (by decide) ?_
        refine lv_goto (tgt := 39) hx hb dX6_takeNumber_35 (by decide) ?_
        have hPc := hP.sub (ws' := [(h0, .inr (6, [.ref tk, .int fk, .int fq])), (tk, .inr (10, [.ref tp, .int kd, .int sa, .int nu, .int be])), (tp, .inr (9, [.ref by_, .int le])), (by_, .inl (E.2.1 0, 800, .inl f))]) [0, 1, 2, 3] rfl
        have hDc := hD.sub (ws' := [(h0, .inr (6, [.ref tk, .int fk, .int fq])), (tk, .inr (10, [.ref tp, .int kd, .int sa, .int nu, .int be])), (tp, .inr (9, [.ref by_, .int le])), (by_, .inl (E.2.1 0, 800, .inl f))]) [0, 1, 2, 3] (by decide) rfl
        have hFc := va_free (wc := [(h0, .inr (6, [.ref tk, .int fk, .int fq])), (tk, .inr (10, [.ref tp, .int kd, .int sa, .int nu, .int be])), (tp, .inr (9, [.ref by_, .int le])), (by_, .inl (E.2.1 0, 800, .inl f))]) hD hS hA [0, 1, 2, 3] rfl
        refine va_calli (va_runV (As := [.int 1]) (rest := []) ⟨hx, hb, hml, hown, hts⟩ (c_X6_refuse l E h0 tk tp by_ fk fq kd sa nu be le f 1 s.heap.size ) (cwV 1 hts gX6_takeNumber_X6_refuse rfl rfl rfl hdV_X6_refuse ⟨Nat.le_of_ble_eq_true rfl, Nat.le_of_ble_eq_true rfl⟩) ⟨pcW_blind, va_recv hK hPc (ci := 6) (q0 := 0) rfl rfl, (pcW_pre hPc hkn hDc hst hS hFc)⟩ rfl rfl hl.1 rfl (lv_room (Nat.le_of_ble_eq_true rfl)) dX6_takeNumber_39 ⟨Nat.le_of_ble_eq_true rfl, Nat.le_of_ble_eq_true rfl⟩) hS (fun q _ h => hFc q h) hFc (fun r_23 u t H1 locs ht hvm hw_24 hB hz1 hk1 hS => ?_)
        obtain ⟨u_25, u_26⟩ := u
        obtain ⟨hP1, hD1⟩ := hB
        rw [ht] at hP1
        try dsimp only at hw_24
        obtain ⟨hP, hD⟩ := va_join (wr := []) (w1 := [(h0, .inr (6, [.ref tk, .int u_25, .int u_26])), (tk, .inr (10, [.ref tp, .int kd, .int sa, .int nu, .int be])), (tp, .inr (9, [.ref by_, .int le])), (by_, .inl (E.2.1 0, 800, .inl f))]) hP hD [0, 1, 2, 3] [] rfl rfl (by decide) (by decide) hk1 hFc hP1 hD1
        generalize H1 = H at hP hS ⊢
        have hP : va_P E.1 vwCl [(h0, .inr (6, [.ref tk, .int u_25, .int u_26])), (tk, .inr (10, [.ref tp, .int kd, .int sa, .int nu, .int be])), (tp, .inr (9, [.ref by_, .int le])), (by_, .inl (E.2.1 0, 800, .inl f))] H := hP
        have hD : va_D A [(h0, .inr (6, [.ref tk, .int u_25, .int u_26])), (tk, .inr (10, [.ref tp, .int kd, .int sa, .int nu, .int be])), (tp, .inr (9, [.ref by_, .int le])), (by_, .inl (E.2.1 0, 800, .inl f))] := hD
        obtain rfl : r_23 = 0 := hw_24
        refine lv_pop hx hb dX6_takeNumber_42 rfl ?_
        refine lv_iconst (v := (-1)) hx hb dX6_takeNumber_43 (by decide) ?_
        have hP9 := hP.sub (ws' := [(h0, .inr (6, [.ref tk, .int u_25, .int u_26])), (tk, .inr (10, [.ref tp, .int kd, .int sa, .int nu, .int be])), (tp, .inr (9, [.ref by_, .int le])), (by_, .inl (E.2.1 0, 800, .inl f))]) [0, 1, 2, 3] rfl
        have hD9 := hD.sub (ws' := [(h0, .inr (6, [.ref tk, .int u_25, .int u_26])), (tk, .inr (10, [.ref tp, .int kd, .int sa, .int nu, .int be])), (tp, .inr (9, [.ref by_, .int le])), (by_, .inl (E.2.1 0, 800, .inl f))]) [0, 1, 2, 3] (by decide) rfl
        exact W.iret (v := (-1)) hx hb hr (fun t ht hW => ⟨⟨(-1), (u_25, u_26, kd, sa, nu, be), rfl, trivial, by rw [ht]; exact hP9, hD9⟩, hS.F ht⟩) hS.2.2 dX6_takeNumber_44
set_option maxHeartbeats 4000000 in
set_option maxRecDepth 100000 in
theorem c_X6_takeWord (l : Launch) (E : vE) (h0 : Nat) (tk : Nat) (tp : Nat) (by_ : Nat) (fk : Int32) (fq : Int32) (kd : Int32) (sa : Int32) (nu : Int32) (be : Int32) (le : Int32) (f : Nat → Int32) (i : Nat) (sz : Nat) (hi : i < 17) : Met l yX6_takeWord wsX6_takeWord ({ frames := 5, cells := 0, slots := 0, locals := 107 }) (pcW E [.ref h0, .ref (E.2.2.1 i)] sz [(h0, .inr (6, [.ref tk, .int fk, .int fq])), (tk, .inr (10, [.ref tp, .int kd, .int sa, .int nu, .int be])), (tp, .inr (9, [.ref by_, .int le])), (by_, .inl (E.2.1 0, 800, .inl f))]) (va_Qi (fun (r : Int32) (u : Int32 × Int32 × Int32 × Int32 × Int32 × Int32) => match u with | (fk2, fq2, kd2, sa2, nu2, be2) => r = 0 ∨ r = 1) (fun (u : Int32 × Int32 × Int32 × Int32 × Int32 × Int32) (t : State) => match u with | (fk2, fq2, kd2, sa2, nu2, be2) => wB E (va_A [(h0, .inr (6, [.ref tk, .int fk, .int fq])), (tk, .inr (10, [.ref tp, .int kd, .int sa, .int nu, .int be])), (tp, .inr (9, [.ref by_, .int le])), (by_, .inl (E.2.1 0, 800, .inl f))] sz) [(h0, .inr (6, [.ref tk, .int fk2, .int fq2])), (tk, .inr (10, [.ref tp, .int kd2, .int sa2, .int nu2, .int be2])), (tp, .inr (9, [.ref by_, .int le])), (by_, .inl (E.2.1 0, 800, .inl f))] t) (va_A [(h0, .inr (6, [.ref tk, .int fk, .int fq])), (tk, .inr (10, [.ref tp, .int kd, .int sa, .int nu, .int be])), (tp, .inr (9, [.ref by_, .int le])), (by_, .inl (E.2.1 0, 800, .inl f))] sz)) 0 0 (va_A [(h0, .inr (6, [.ref tk, .int fk, .int fq])), (tk, .inr (10, [.ref tp, .int kd, .int sa, .int nu, .int be])), (tp, .inr (9, [.ref by_, .int le])), (by_, .inl (E.2.1 0, 800, .inl f))] sz) := by
  refine Met.ofW (cc := cX6_takeWord) (maxL := 2) (ret := (some .boolean)) (by decide) rfl ?_
  intro p e s m args below meth c s₁ B hml hv
  obtain ⟨rfl, hsz, hP, hkn, hD0, hst⟩ := hv
  have hx := B.exec
  have hb := B.bytes
  have hr := B.returns
  have hts := atoms_spec (ws := wsX6_takeWord) B.pre
  have hown : s.vm.findClass RX6 = some m.cls := findClass_of_methodNamed B.named
  have hlocks := B.notSynchronized
  subst hsz
  have hD := hD0.self (sz := s.heap.size)
  have hK := hkn.1
  have hAO := hkn.2.2.1
  generalize hAe : va_A [(h0, .inr (6, [.ref tk, .int fk, .int fq])), (tk, .inr (10, [.ref tp, .int kd, .int sa, .int nu, .int be])), (tp, .inr (9, [.ref by_, .int le])), (by_, .inl (E.2.1 0, 800, .inl f))] s.heap.size = A at hD hst ⊢
  have hA : ∀ q : Nat, s.heap.size ≤ q → A q := fun q h => by rw [← hAe]; exact Or.inr h
  have hS : va_S A s.heap s.heap [] := va_S.rf
  have hP : va_P E.1 vwCl [(h0, .inr (6, [.ref tk, .int fk, .int fq])), (tk, .inr (10, [.ref tp, .int kd, .int sa, .int nu, .int be])), (tp, .inr (9, [.ref by_, .int le])), (by_, .inl (E.2.1 0, 800, .inl f))] s.heap := hP
  have hl := lv_entry ([.ref h0, .ref (E.2.2.1 i)]) (n := 2) (Nat.le_of_ble_eq_true rfl)
  rw [lg_entry_eq]
  generalize (lg_sl ([.ref h0, .ref (E.2.2.1 i)]) ++ List.replicate (2 - (lg_sl ([.ref h0, .ref (E.2.2.1 i)])).length) Slot.unset).toArray = ls at hl ⊢
  have hl : lv_has ls 2 [(0, .ref h0), (1, .ref (E.2.2.1 i))] := hl
  have fl23 := hts (.fieldLink RX6 23 "BoatsHome$Reader" "tokens" "LBoatsHome$Tokens;") (by first | exact List.mem_of_getElem? (i := 1) rfl | decide +kernel)
  have inX6 : ∀ w ∈ u_ws RX6 TX6 3, w ∈ wsX6_takeWord := by first | exact fun w h9 => (List.mem_cons_of_mem _ (List.mem_append_left _ (List.mem_append_left _ (List.mem_append_right _ h9)))) | decide +kernel
  refine lv_aload_n hx hb dX6_takeWord_0 rfl (lv_at hl 0 rfl) ?_
  refine va_get (D := E.1) (ci := 6) (v := .ref tk) (C := RX6) (T := TX6) (N := 3) hx hb hts inX6 hown hK hP 0 rfl rfl 0 (by decide) fl23 (fun _ h9 => h9) rfl dX6_takeWord_1 ?_
  refine lv_aload_n hx hb dX6_takeWord_4 rfl (lv_at hl 1 rfl) ?_
  have hPc := hP.sub (ws' := [(tk, .inr (10, [.ref tp, .int kd, .int sa, .int nu, .int be])), (tp, .inr (9, [.ref by_, .int le])), (by_, .inl (E.2.1 0, 800, .inl f))]) [1, 2, 3] rfl
  have hDc := hD.sub (ws' := [(tk, .inr (10, [.ref tp, .int kd, .int sa, .int nu, .int be])), (tp, .inr (9, [.ref by_, .int le])), (by_, .inl (E.2.1 0, 800, .inl f))]) [1, 2, 3] (by decide) rfl
  have hFc := va_free (wc := [(tk, .inr (10, [.ref tp, .int kd, .int sa, .int nu, .int be])), (tp, .inr (9, [.ref by_, .int le])), (by_, .inl (E.2.1 0, 800, .inl f))]) hD hS hA [1, 2, 3] rfl
  refine va_calli (va_runV (As := [.ref (E.2.2.1 i)]) (rest := []) ⟨hx, hb, hml, hown, hts⟩ (c_X10_spells l E tk tp by_ kd sa nu be le f i s.heap.size hi) (cwV 1 hts gX6_takeWord_X10_spells rfl rfl rfl hdV_X10_spells ⟨Nat.le_of_ble_eq_true rfl, Nat.le_of_ble_eq_true rfl⟩) ⟨pcW_blind, va_recv hK hPc (ci := 10) (q0 := 0) rfl rfl, (pcW_pre hPc hkn hDc hst hS hFc)⟩ rfl rfl hl.1 rfl (lv_room (Nat.le_of_ble_eq_true rfl)) dX6_takeWord_5 ⟨Nat.le_of_ble_eq_true rfl, Nat.le_of_ble_eq_true rfl⟩) hS (fun q _ h => hFc q h) hFc (fun r_1 u t H1 locs ht hvm hw_2 hB hz1 hk1 hS => ?_)
  obtain ⟨hP1, hD1⟩ := hB
  rw [ht] at hP1
  try dsimp only at hw_2
  obtain ⟨hP, hD⟩ := va_join (wr := [(h0, .inr (6, [.ref tk, .int fk, .int fq]))]) (w1 := [(tk, .inr (10, [.ref tp, .int kd, .int sa, .int nu, .int be])), (tp, .inr (9, [.ref by_, .int le])), (by_, .inl (E.2.1 0, 800, .inl f))]) hP hD [1, 2, 3] [0] rfl rfl (by decide) (by decide) hk1 hFc hP1 hD1
  generalize H1 = H at hP hS ⊢
  have hP : va_P E.1 vwCl [(h0, .inr (6, [.ref tk, .int fk, .int fq])), (tk, .inr (10, [.ref tp, .int kd, .int sa, .int nu, .int be])), (tp, .inr (9, [.ref by_, .int le])), (by_, .inl (E.2.1 0, 800, .inl f))] H := hP
  have hD : va_D A [(h0, .inr (6, [.ref tk, .int fk, .int fq])), (tk, .inr (10, [.ref tp, .int kd, .int sa, .int nu, .int be])), (tp, .inr (9, [.ref by_, .int le])), (by_, .inl (E.2.1 0, 800, .inl f))] := hD
  refine lv_if_ne (tgt := 17) hx hb dX6_takeWord_8 (by decide) (fun c_3 => ?_) (fun c_3 => ?_)
  · refine lv_aload_n hx hb dX6_takeWord_17 rfl (lv_at hl 0 rfl) ?_
    refine va_get (D := E.1) (ci := 6) (v := .ref tk) (C := RX6) (T := TX6) (N := 3) hx hb hts inX6 hown hK hP 0 rfl rfl 0 (by decide) fl23 (fun _ h9 => h9) rfl dX6_takeWord_18 ?_
    have hPc := hP.sub (ws' := [(tk, .inr (10, [.ref tp, .int kd, .int sa, .int nu, .int be])), (tp, .inr (9, [.ref by_, .int le])), (by_, .inl (E.2.1 0, 800, .inl f))]) [1, 2, 3] rfl
    have hDc := hD.sub (ws' := [(tk, .inr (10, [.ref tp, .int kd, .int sa, .int nu, .int be])), (tp, .inr (9, [.ref by_, .int le])), (by_, .inl (E.2.1 0, 800, .inl f))]) [1, 2, 3] (by decide) rfl
    have hFc := va_free (wc := [(tk, .inr (10, [.ref tp, .int kd, .int sa, .int nu, .int be])), (tp, .inr (9, [.ref by_, .int le])), (by_, .inl (E.2.1 0, 800, .inl f))]) hD hS hA [1, 2, 3] rfl
    refine va_callv (va_runV (As := []) (rest := []) ⟨hx, hb, hml, hown, hts⟩ (c_X10_advance l E tk tp by_ kd sa nu be le f H.size ) (cwV 0 hts gX6_takeWord_X10_advance rfl rfl rfl hdV_X10_advance ⟨Nat.le_of_ble_eq_true rfl, Nat.le_of_ble_eq_true rfl⟩) ⟨pcW_blind, va_recv hK hPc (ci := 10) (q0 := 0) rfl rfl, (pcW_pre hPc hkn hDc hst hS hFc)⟩ rfl rfl hl.1 rfl (lv_room (Nat.le_of_ble_eq_true rfl)) dX6_takeWord_21 ⟨Nat.le_of_ble_eq_true rfl, Nat.le_of_ble_eq_true rfl⟩) hS (fun q _ h => hFc q h) hFc (fun u t H1 locs ht hvm hw_5 hB hz1 hk1 hS => ?_)
    obtain ⟨u_6, u_7, u_8, u_9⟩ := u
    obtain ⟨hP1, hD1⟩ := hB
    rw [ht] at hP1
    try dsimp only at hw_5
    obtain ⟨hP, hD⟩ := va_join (wr := [(h0, .inr (6, [.ref tk, .int fk, .int fq]))]) (w1 := [(tk, .inr (10, [.ref tp, .int u_6, .int u_7, .int u_8, .int u_9])), (tp, .inr (9, [.ref by_, .int le])), (by_, .inl (E.2.1 0, 800, .inl f))]) hP hD [1, 2, 3] [0] rfl rfl (by decide) (by decide) hk1 hFc hP1 hD1
    generalize H1 = H at hP hS ⊢
    have hP : va_P E.1 vwCl [(h0, .inr (6, [.ref tk, .int fk, .int fq])), (tk, .inr (10, [.ref tp, .int u_6, .int u_7, .int u_8, .int u_9])), (tp, .inr (9, [.ref by_, .int le])), (by_, .inl (E.2.1 0, 800, .inl f))] H := hP
    have hD : va_D A [(h0, .inr (6, [.ref tk, .int fk, .int fq])), (tk, .inr (10, [.ref tp, .int u_6, .int u_7, .int u_8, .int u_9])), (tp, .inr (9, [.ref by_, .int le])), (by_, .inl (E.2.1 0, 800, .inl f))] := hD
    refine lv_iconst (v := 1) hx hb dX6_takeWord_24 (by decide) ?_
    have hP9 := hP.sub (ws' := [(h0, .inr (6, [.ref tk, .int fk, .int fq])), (tk, .inr (10, [.ref tp, .int u_6, .int u_7, .int u_8, .int u_9])), (tp, .inr (9, [.ref by_, .int le])), (by_, .inl (E.2.1 0, 800, .inl f))]) [0, 1, 2, 3] rfl
    have hD9 := hD.sub (ws' := [(h0, .inr (6, [.ref tk, .int fk, .int fq])), (tk, .inr (10, [.ref tp, .int u_6, .int u_7, .int u_8, .int u_9])), (tp, .inr (9, [.ref by_, .int le])), (by_, .inl (E.2.1 0, 800, .inl f))]) [0, 1, 2, 3] (by decide) rfl
    exact W.zret (v := 1) hx hb hr (by decide) (fun t ht hW => ⟨⟨1, (fk, fq, u_6, u_7, u_8, u_9), rfl, Or.inr rfl, by rw [ht]; exact hP9, hD9⟩, hS.F ht⟩) hS.2.2 dX6_takeWord_25
  · refine lv_aload_n hx hb dX6_takeWord_11 rfl (lv_at hl 0 rfl) ?_
    refine lv_iconst (v := 1) hx hb dX6_takeWord_12 (by decide) ?_
    have hPc := hP.sub (ws' := [(h0, .inr (6, [.ref tk, .int fk, .int fq])), (tk, .inr (10, [.ref tp, .int kd, .int sa, .int nu, .int be])), (tp, .inr (9, [.ref by_, .int le])), (by_, .inl (E.2.1 0, 800, .inl f))]) [0, 1, 2, 3] rfl
    have hDc := hD.sub (ws' := [(h0, .inr (6, [.ref tk, .int fk, .int fq])), (tk, .inr (10, [.ref tp, .int kd, .int sa, .int nu, .int be])), (tp, .inr (9, [.ref by_, .int le])), (by_, .inl (E.2.1 0, 800, .inl f))]) [0, 1, 2, 3] (by decide) rfl
    have hFc := va_free (wc := [(h0, .inr (6, [.ref tk, .int fk, .int fq])), (tk, .inr (10, [.ref tp, .int kd, .int sa, .int nu, .int be])), (tp, .inr (9, [.ref by_, .int le])), (by_, .inl (E.2.1 0, 800, .inl f))]) hD hS hA [0, 1, 2, 3] rfl
    refine va_calli (va_runV (As := [.int 1]) (rest := []) ⟨hx, hb, hml, hown, hts⟩ (c_X6_refuse l E h0 tk tp by_ fk fq kd sa nu be le f 1 H.size ) (cwV 1 hts gX6_takeWord_X6_refuse rfl rfl rfl hdV_X6_refuse ⟨Nat.le_of_ble_eq_true rfl, Nat.le_of_ble_eq_true rfl⟩) ⟨pcW_blind, va_recv hK hPc (ci := 6) (q0 := 0) rfl rfl, (pcW_pre hPc hkn hDc hst hS hFc)⟩ rfl rfl hl.1 rfl (lv_room (Nat.le_of_ble_eq_true rfl)) dX6_takeWord_13 ⟨Nat.le_of_ble_eq_true rfl, Nat.le_of_ble_eq_true rfl⟩) hS (fun q _ h => hFc q h) hFc (fun r_10 u t H1 locs ht hvm hw_11 hB hz1 hk1 hS => ?_)
    obtain ⟨u_12, u_13⟩ := u
    obtain ⟨hP1, hD1⟩ := hB
    rw [ht] at hP1
    try dsimp only at hw_11
    obtain ⟨hP, hD⟩ := va_join (wr := []) (w1 := [(h0, .inr (6, [.ref tk, .int u_12, .int u_13])), (tk, .inr (10, [.ref tp, .int kd, .int sa, .int nu, .int be])), (tp, .inr (9, [.ref by_, .int le])), (by_, .inl (E.2.1 0, 800, .inl f))]) hP hD [0, 1, 2, 3] [] rfl rfl (by decide) (by decide) hk1 hFc hP1 hD1
    generalize H1 = H at hP hS ⊢
    have hP : va_P E.1 vwCl [(h0, .inr (6, [.ref tk, .int u_12, .int u_13])), (tk, .inr (10, [.ref tp, .int kd, .int sa, .int nu, .int be])), (tp, .inr (9, [.ref by_, .int le])), (by_, .inl (E.2.1 0, 800, .inl f))] H := hP
    have hD : va_D A [(h0, .inr (6, [.ref tk, .int u_12, .int u_13])), (tk, .inr (10, [.ref tp, .int kd, .int sa, .int nu, .int be])), (tp, .inr (9, [.ref by_, .int le])), (by_, .inl (E.2.1 0, 800, .inl f))] := hD
    obtain rfl : r_10 = 0 := hw_11
    have hP9 := hP.sub (ws' := [(h0, .inr (6, [.ref tk, .int u_12, .int u_13])), (tk, .inr (10, [.ref tp, .int kd, .int sa, .int nu, .int be])), (tp, .inr (9, [.ref by_, .int le])), (by_, .inl (E.2.1 0, 800, .inl f))]) [0, 1, 2, 3] rfl
    have hD9 := hD.sub (ws' := [(h0, .inr (6, [.ref tk, .int u_12, .int u_13])), (tk, .inr (10, [.ref tp, .int kd, .int sa, .int nu, .int be])), (tp, .inr (9, [.ref by_, .int le])), (by_, .inl (E.2.1 0, 800, .inl f))]) [0, 1, 2, 3] (by decide) rfl
    exact W.zret (v := 0) hx hb hr (by decide) (fun t ht hW => ⟨⟨0, (u_12, u_13, kd, sa, nu, be), rfl, Or.inl rfl, by rw [ht]; exact hP9, hD9⟩, hS.F ht⟩) hS.2.2 dX6_takeWord_16
set_option maxHeartbeats 4000000 in
set_option maxRecDepth 100000 in
theorem c_X6_takeOneOf (l : Launch) (E : vE) (h0 : Nat) (tk : Nat) (tp : Nat) (by_ : Nat) (fk : Int32) (fq : Int32) (kd : Int32) (sa : Int32) (nu : Int32) (be : Int32) (le : Int32) (f : Nat → Int32) (i1 : Nat) (i2 : Nat) (i3 : Nat) (i4 : Nat) (sz : Nat) (hi1 : i1 < 17) (hi2 : i2 < 17) (hi3 : i3 < 17) (hi4 : i4 < 17) : Met l yX6_takeOneOf wsX6_takeOneOf ({ frames := 5, cells := 0, slots := 0, locals := 107 }) (pcW E [.ref h0, .ref (E.2.2.1 i1), .ref (E.2.2.1 i2), .ref (E.2.2.1 i3), .ref (E.2.2.1 i4)] sz [(h0, .inr (6, [.ref tk, .int fk, .int fq])), (tk, .inr (10, [.ref tp, .int kd, .int sa, .int nu, .int be])), (tp, .inr (9, [.ref by_, .int le])), (by_, .inl (E.2.1 0, 800, .inl f))]) (va_Qi (fun (r : Int32) (u : Int32 × Int32 × Int32 × Int32 × Int32 × Int32) => match u with | (fk2, fq2, kd2, sa2, nu2, be2) => True) (fun (u : Int32 × Int32 × Int32 × Int32 × Int32 × Int32) (t : State) => match u with | (fk2, fq2, kd2, sa2, nu2, be2) => wB E (va_A [(h0, .inr (6, [.ref tk, .int fk, .int fq])), (tk, .inr (10, [.ref tp, .int kd, .int sa, .int nu, .int be])), (tp, .inr (9, [.ref by_, .int le])), (by_, .inl (E.2.1 0, 800, .inl f))] sz) [(h0, .inr (6, [.ref tk, .int fk2, .int fq2])), (tk, .inr (10, [.ref tp, .int kd2, .int sa2, .int nu2, .int be2])), (tp, .inr (9, [.ref by_, .int le])), (by_, .inl (E.2.1 0, 800, .inl f))] t) (va_A [(h0, .inr (6, [.ref tk, .int fk, .int fq])), (tk, .inr (10, [.ref tp, .int kd, .int sa, .int nu, .int be])), (tp, .inr (9, [.ref by_, .int le])), (by_, .inl (E.2.1 0, 800, .inl f))] sz)) 0 0 (va_A [(h0, .inr (6, [.ref tk, .int fk, .int fq])), (tk, .inr (10, [.ref tp, .int kd, .int sa, .int nu, .int be])), (tp, .inr (9, [.ref by_, .int le])), (by_, .inl (E.2.1 0, 800, .inl f))] sz) := by
  refine Met.ofW (cc := cX6_takeOneOf) (maxL := 6) (ret := (some .int)) (by decide) rfl ?_
  intro p e s m args below meth c s₁ B hml hv
  obtain ⟨rfl, hsz, hP, hkn, hD0, hst⟩ := hv
  have hx := B.exec
  have hb := B.bytes
  have hr := B.returns
  have hts := atoms_spec (ws := wsX6_takeOneOf) B.pre
  have hown : s.vm.findClass RX6 = some m.cls := findClass_of_methodNamed B.named
  have hlocks := B.notSynchronized
  subst hsz
  have hD := hD0.self (sz := s.heap.size)
  have hK := hkn.1
  have hAO := hkn.2.2.1
  generalize hAe : va_A [(h0, .inr (6, [.ref tk, .int fk, .int fq])), (tk, .inr (10, [.ref tp, .int kd, .int sa, .int nu, .int be])), (tp, .inr (9, [.ref by_, .int le])), (by_, .inl (E.2.1 0, 800, .inl f))] s.heap.size = A at hD hst ⊢
  have hA : ∀ q : Nat, s.heap.size ≤ q → A q := fun q h => by rw [← hAe]; exact Or.inr h
  have hS : va_S A s.heap s.heap [] := va_S.rf
  have hP : va_P E.1 vwCl [(h0, .inr (6, [.ref tk, .int fk, .int fq])), (tk, .inr (10, [.ref tp, .int kd, .int sa, .int nu, .int be])), (tp, .inr (9, [.ref by_, .int le])), (by_, .inl (E.2.1 0, 800, .inl f))] s.heap := hP
  have hl := lv_entry ([.ref h0, .ref (E.2.2.1 i1), .ref (E.2.2.1 i2), .ref (E.2.2.1 i3), .ref (E.2.2.1 i4)]) (n := 6) (Nat.le_of_ble_eq_true rfl)
  rw [lg_entry_eq]
  generalize (lg_sl ([.ref h0, .ref (E.2.2.1 i1), .ref (E.2.2.1 i2), .ref (E.2.2.1 i3), .ref (E.2.2.1 i4)]) ++ List.replicate (6 - (lg_sl ([.ref h0, .ref (E.2.2.1 i1), .ref (E.2.2.1 i2), .ref (E.2.2.1 i3), .ref (E.2.2.1 i4)])).length) Slot.unset).toArray = ls at hl ⊢
  have hl : lv_has ls 6 [(0, .ref h0), (1, .ref (E.2.2.1 i1)), (2, .ref (E.2.2.1 i2)), (3, .ref (E.2.2.1 i3)), (4, .ref (E.2.2.1 i4))] := hl
  have fl23 := hts (.fieldLink RX6 23 "BoatsHome$Reader" "tokens" "LBoatsHome$Tokens;") (by first | exact List.mem_of_getElem? (i := 1) rfl | decide +kernel)
  have inX6 : ∀ w ∈ u_ws RX6 TX6 3, w ∈ wsX6_takeOneOf := by first | exact fun w h9 => (List.mem_cons_of_mem _ (List.mem_append_left _ (List.mem_append_left _ (List.mem_append_right _ h9)))) | decide +kernel
  refine lv_aload_n hx hb dX6_takeOneOf_0 rfl (lv_at hl 0 rfl) ?_
  refine va_get (D := E.1) (ci := 6) (v := .ref tk) (C := RX6) (T := TX6) (N := 3) hx hb hts inX6 hown hK hP 0 rfl rfl 0 (by decide) fl23 (fun _ h9 => h9) rfl dX6_takeOneOf_1 ?_
  refine lv_aload_n hx hb dX6_takeOneOf_4 rfl (lv_at hl 1 rfl) ?_
  have hPc := hP.sub (ws' := [(tk, .inr (10, [.ref tp, .int kd, .int sa, .int nu, .int be])), (tp, .inr (9, [.ref by_, .int le])), (by_, .inl (E.2.1 0, 800, .inl f))]) [1, 2, 3] rfl
  have hDc := hD.sub (ws' := [(tk, .inr (10, [.ref tp, .int kd, .int sa, .int nu, .int be])), (tp, .inr (9, [.ref by_, .int le])), (by_, .inl (E.2.1 0, 800, .inl f))]) [1, 2, 3] (by decide) rfl
  have hFc := va_free (wc := [(tk, .inr (10, [.ref tp, .int kd, .int sa, .int nu, .int be])), (tp, .inr (9, [.ref by_, .int le])), (by_, .inl (E.2.1 0, 800, .inl f))]) hD hS hA [1, 2, 3] rfl
  refine va_calli (va_runV (As := [.ref (E.2.2.1 i1)]) (rest := []) ⟨hx, hb, hml, hown, hts⟩ (c_X10_spells l E tk tp by_ kd sa nu be le f i1 s.heap.size hi1) (cwV 1 hts gX6_takeOneOf_X10_spells rfl rfl rfl hdV_X10_spells ⟨Nat.le_of_ble_eq_true rfl, Nat.le_of_ble_eq_true rfl⟩) ⟨pcW_blind, va_recv hK hPc (ci := 10) (q0 := 0) rfl rfl, (pcW_pre hPc hkn hDc hst hS hFc)⟩ rfl rfl hl.1 rfl (lv_room (Nat.le_of_ble_eq_true rfl)) dX6_takeOneOf_5 ⟨Nat.le_of_ble_eq_true rfl, Nat.le_of_ble_eq_true rfl⟩) hS (fun q _ h => hFc q h) hFc (fun r_1 u t H1 locs ht hvm hw_2 hB hz1 hk1 hS => ?_)
  obtain ⟨hP1, hD1⟩ := hB
  rw [ht] at hP1
  try dsimp only at hw_2
  obtain ⟨hP, hD⟩ := va_join (wr := [(h0, .inr (6, [.ref tk, .int fk, .int fq]))]) (w1 := [(tk, .inr (10, [.ref tp, .int kd, .int sa, .int nu, .int be])), (tp, .inr (9, [.ref by_, .int le])), (by_, .inl (E.2.1 0, 800, .inl f))]) hP hD [1, 2, 3] [0] rfl rfl (by decide) (by decide) hk1 hFc hP1 hD1
  generalize H1 = H at hP hS ⊢
  have hP : va_P E.1 vwCl [(h0, .inr (6, [.ref tk, .int fk, .int fq])), (tk, .inr (10, [.ref tp, .int kd, .int sa, .int nu, .int be])), (tp, .inr (9, [.ref by_, .int le])), (by_, .inl (E.2.1 0, 800, .inl f))] H := hP
  have hD : va_D A [(h0, .inr (6, [.ref tk, .int fk, .int fq])), (tk, .inr (10, [.ref tp, .int kd, .int sa, .int nu, .int be])), (tp, .inr (9, [.ref by_, .int le])), (by_, .inl (E.2.1 0, 800, .inl f))] := hD
  refine lv_if_eq (tgt := 15) hx hb dX6_takeOneOf_8 (by decide) (fun c_3 => ?_) (fun c_3 => ?_)
  · refine lv_aload_n hx hb dX6_takeOneOf_15 rfl (lv_at hl 0 rfl) ?_
    refine va_get (D := E.1) (ci := 6) (v := .ref tk) (C := RX6) (T := TX6) (N := 3) hx hb hts inX6 hown hK hP 0 rfl rfl 0 (by decide) fl23 (fun _ h9 => h9) rfl dX6_takeOneOf_16 ?_
    refine lv_aload_n hx hb dX6_takeOneOf_19 rfl (lv_at hl 2 rfl) ?_
    have hPc := hP.sub (ws' := [(tk, .inr (10, [.ref tp, .int kd, .int sa, .int nu, .int be])), (tp, .inr (9, [.ref by_, .int le])), (by_, .inl (E.2.1 0, 800, .inl f))]) [1, 2, 3] rfl
    have hDc := hD.sub (ws' := [(tk, .inr (10, [.ref tp, .int kd, .int sa, .int nu, .int be])), (tp, .inr (9, [.ref by_, .int le])), (by_, .inl (E.2.1 0, 800, .inl f))]) [1, 2, 3] (by decide) rfl
    have hFc := va_free (wc := [(tk, .inr (10, [.ref tp, .int kd, .int sa, .int nu, .int be])), (tp, .inr (9, [.ref by_, .int le])), (by_, .inl (E.2.1 0, 800, .inl f))]) hD hS hA [1, 2, 3] rfl
    refine va_calli (va_runV (As := [.ref (E.2.2.1 i2)]) (rest := []) ⟨hx, hb, hml, hown, hts⟩ (c_X10_spells l E tk tp by_ kd sa nu be le f i2 H.size hi2) (cwV 1 hts gX6_takeOneOf_X10_spells rfl rfl rfl hdV_X10_spells ⟨Nat.le_of_ble_eq_true rfl, Nat.le_of_ble_eq_true rfl⟩) ⟨pcW_blind, va_recv hK hPc (ci := 10) (q0 := 0) rfl rfl, (pcW_pre hPc hkn hDc hst hS hFc)⟩ rfl rfl hl.1 rfl (lv_room (Nat.le_of_ble_eq_true rfl)) dX6_takeOneOf_20 ⟨Nat.le_of_ble_eq_true rfl, Nat.le_of_ble_eq_true rfl⟩) hS (fun q _ h => hFc q h) hFc (fun r_4 u t H1 locs ht hvm hw_5 hB hz1 hk1 hS => ?_)
    obtain ⟨hP1, hD1⟩ := hB
    rw [ht] at hP1
    try dsimp only at hw_5
    obtain ⟨hP, hD⟩ := va_join (wr := [(h0, .inr (6, [.ref tk, .int fk, .int fq]))]) (w1 := [(tk, .inr (10, [.ref tp, .int kd, .int sa, .int nu, .int be])), (tp, .inr (9, [.ref by_, .int le])), (by_, .inl (E.2.1 0, 800, .inl f))]) hP hD [1, 2, 3] [0] rfl rfl (by decide) (by decide) hk1 hFc hP1 hD1
    generalize H1 = H at hP hS ⊢
    have hP : va_P E.1 vwCl [(h0, .inr (6, [.ref tk, .int fk, .int fq])), (tk, .inr (10, [.ref tp, .int kd, .int sa, .int nu, .int be])), (tp, .inr (9, [.ref by_, .int le])), (by_, .inl (E.2.1 0, 800, .inl f))] H := hP
    have hD : va_D A [(h0, .inr (6, [.ref tk, .int fk, .int fq])), (tk, .inr (10, [.ref tp, .int kd, .int sa, .int nu, .int be])), (tp, .inr (9, [.ref by_, .int le])), (by_, .inl (E.2.1 0, 800, .inl f))] := hD
    refine lv_if_eq (tgt := 30) hx hb dX6_takeOneOf_23 (by decide) (fun c_6 => ?_) (fun c_6 => ?_)
    · refine lv_aload_n hx hb dX6_takeOneOf_30 rfl (lv_at hl 0 rfl) ?_
      refine va_get (D := E.1) (ci := 6) (v := .ref tk) (C := RX6) (T := TX6) (N := 3) hx hb hts inX6 hown hK hP 0 rfl rfl 0 (by decide) fl23 (fun _ h9 => h9) rfl dX6_takeOneOf_31 ?_
      refine lv_aload_n hx hb dX6_takeOneOf_34 rfl (lv_at hl 3 rfl) ?_
      have hPc := hP.sub (ws' := [(tk, .inr (10, [.ref tp, .int kd, .int sa, .int nu, .int be])), (tp, .inr (9, [.ref by_, .int le])), (by_, .inl (E.2.1 0, 800, .inl f))]) [1, 2, 3] rfl
      have hDc := hD.sub (ws' := [(tk, .inr (10, [.ref tp, .int kd, .int sa, .int nu, .int be])), (tp, .inr (9, [.ref by_, .int le])), (by_, .inl (E.2.1 0, 800, .inl f))]) [1, 2, 3] (by decide) rfl
      have hFc := va_free (wc := [(tk, .inr (10, [.ref tp, .int kd, .int sa, .int nu, .int be])), (tp, .inr (9, [.ref by_, .int le])), (by_, .inl (E.2.1 0, 800, .inl f))]) hD hS hA [1, 2, 3] rfl
      refine va_calli (va_runV (As := [.ref (E.2.2.1 i3)]) (rest := []) ⟨hx, hb, hml, hown, hts⟩ (c_X10_spells l E tk tp by_ kd sa nu be le f i3 H.size hi3) (cwV 1 hts gX6_takeOneOf_X10_spells rfl rfl rfl hdV_X10_spells ⟨Nat.le_of_ble_eq_true rfl, Nat.le_of_ble_eq_true rfl⟩) ⟨pcW_blind, va_recv hK hPc (ci := 10) (q0 := 0) rfl rfl, (pcW_pre hPc hkn hDc hst hS hFc)⟩ rfl rfl hl.1 rfl (lv_room (Nat.le_of_ble_eq_true rfl)) dX6_takeOneOf_35 ⟨Nat.le_of_ble_eq_true rfl, Nat.le_of_ble_eq_true rfl⟩) hS (fun q _ h => hFc q h) hFc (fun r_7 u t H1 locs ht hvm hw_8 hB hz1 hk1 hS => ?_)
      obtain ⟨hP1, hD1⟩ := hB
      rw [ht] at hP1
      try dsimp only at hw_8
      obtain ⟨hP, hD⟩ := va_join (wr := [(h0, .inr (6, [.ref tk, .int fk, .int fq]))]) (w1 := [(tk, .inr (10, [.ref tp, .int kd, .int sa, .int nu, .int be])), (tp, .inr (9, [.ref by_, .int le])), (by_, .inl (E.2.1 0, 800, .inl f))]) hP hD [1, 2, 3] [0] rfl rfl (by decide) (by decide) hk1 hFc hP1 hD1
      generalize H1 = H at hP hS ⊢
      have hP : va_P E.1 vwCl [(h0, .inr (6, [.ref tk, .int fk, .int fq])), (tk, .inr (10, [.ref tp, .int kd, .int sa, .int nu, .int be])), (tp, .inr (9, [.ref by_, .int le])), (by_, .inl (E.2.1 0, 800, .inl f))] H := hP
      have hD : va_D A [(h0, .inr (6, [.ref tk, .int fk, .int fq])), (tk, .inr (10, [.ref tp, .int kd, .int sa, .int nu, .int be])), (tp, .inr (9, [.ref by_, .int le])), (by_, .inl (E.2.1 0, 800, .inl f))] := hD
      refine lv_if_eq (tgt := 45) hx hb dX6_takeOneOf_38 (by decide) (fun c_9 => ?_) (fun c_9 => ?_)
      · refine lv_aload_n hx hb dX6_takeOneOf_45 rfl (lv_at hl 0 rfl) ?_
        refine va_get (D := E.1) (ci := 6) (v := .ref tk) (C := RX6) (T := TX6) (N := 3) hx hb hts inX6 hown hK hP 0 rfl rfl 0 (by decide) fl23 (fun _ h9 => h9) rfl dX6_takeOneOf_46 ?_
        refine lv_aload hx hb dX6_takeOneOf_49 (lv_at hl 4 rfl) ?_
        have hPc := hP.sub (ws' := [(tk, .inr (10, [.ref tp, .int kd, .int sa, .int nu, .int be])), (tp, .inr (9, [.ref by_, .int le])), (by_, .inl (E.2.1 0, 800, .inl f))]) [1, 2, 3] rfl
        have hDc := hD.sub (ws' := [(tk, .inr (10, [.ref tp, .int kd, .int sa, .int nu, .int be])), (tp, .inr (9, [.ref by_, .int le])), (by_, .inl (E.2.1 0, 800, .inl f))]) [1, 2, 3] (by decide) rfl
        have hFc := va_free (wc := [(tk, .inr (10, [.ref tp, .int kd, .int sa, .int nu, .int be])), (tp, .inr (9, [.ref by_, .int le])), (by_, .inl (E.2.1 0, 800, .inl f))]) hD hS hA [1, 2, 3] rfl
        refine va_calli (va_runV (As := [.ref (E.2.2.1 i4)]) (rest := []) ⟨hx, hb, hml, hown, hts⟩ (c_X10_spells l E tk tp by_ kd sa nu be le f i4 H.size hi4) (cwV 1 hts gX6_takeOneOf_X10_spells rfl rfl rfl hdV_X10_spells ⟨Nat.le_of_ble_eq_true rfl, Nat.le_of_ble_eq_true rfl⟩) ⟨pcW_blind, va_recv hK hPc (ci := 10) (q0 := 0) rfl rfl, (pcW_pre hPc hkn hDc hst hS hFc)⟩ rfl rfl hl.1 rfl (lv_room (Nat.le_of_ble_eq_true rfl)) dX6_takeOneOf_51 ⟨Nat.le_of_ble_eq_true rfl, Nat.le_of_ble_eq_true rfl⟩) hS (fun q _ h => hFc q h) hFc (fun r_10 u t H1 locs ht hvm hw_11 hB hz1 hk1 hS => ?_)
        obtain ⟨hP1, hD1⟩ := hB
        rw [ht] at hP1
        try dsimp only at hw_11
        obtain ⟨hP, hD⟩ := va_join (wr := [(h0, .inr (6, [.ref tk, .int fk, .int fq]))]) (w1 := [(tk, .inr (10, [.ref tp, .int kd, .int sa, .int nu, .int be])), (tp, .inr (9, [.ref by_, .int le])), (by_, .inl (E.2.1 0, 800, .inl f))]) hP hD [1, 2, 3] [0] rfl rfl (by decide) (by decide) hk1 hFc hP1 hD1
        generalize H1 = H at hP hS ⊢
        have hP : va_P E.1 vwCl [(h0, .inr (6, [.ref tk, .int fk, .int fq])), (tk, .inr (10, [.ref tp, .int kd, .int sa, .int nu, .int be])), (tp, .inr (9, [.ref by_, .int le])), (by_, .inl (E.2.1 0, 800, .inl f))] H := hP
        have hD : va_D A [(h0, .inr (6, [.ref tk, .int fk, .int fq])), (tk, .inr (10, [.ref tp, .int kd, .int sa, .int nu, .int be])), (tp, .inr (9, [.ref by_, .int le])), (by_, .inl (E.2.1 0, 800, .inl f))] := hD
        refine lv_if_eq (tgt := 61) hx hb dX6_takeOneOf_54 (by decide) (fun c_12 => ?_) (fun c_12 => ?_)
        · refine lv_iconst (v := (-1)) hx hb dX6_takeOneOf_61 (by decide) ?_
          refine lv_istore (lv' := [(5, .int (-1)), (0, .ref h0), (1, .ref (E.2.2.1 i1)), (2, .ref (E.2.2.1 i2)), (3, .ref (E.2.2.1 i3)), (4, .ref (E.2.2.1 i4))]) hx hb dX6_takeOneOf_62 hl (by decide) rfl (fun ls hl => ?_)
          refine lv_iload hx hb dX6_takeOneOf_64 (lv_at hl 0 rfl) ?_
          refine lv_iconst (v := (-1)) hx hb dX6_takeOneOf_66 (by decide) ?_
          refine lv_icmp_ne (tgt := 79) hx hb dX6_takeOneOf_67 (by decide) (fun c9 => absurd c9 (by decide)) (fun _ => ?_)
          refine lv_aload_n hx hb dX6_takeOneOf_70 rfl (lv_at hl 1 rfl) ?_
          refine lv_iconst (v := 1) hx hb dX6_takeOneOf_71 (by decide) ?_
          have hPc := hP.sub (ws' := [(h0, .inr (6, [.ref tk, .int fk, .int fq])), (tk, .inr (10, [.ref tp, .int kd, .int sa, .int nu, .int be])), (tp, .inr (9, [.ref by_, .int le])), (by_, .inl (E.2.1 0, 800, .inl f))]) [0, 1, 2, 3] rfl
          have hDc := hD.sub (ws' := [(h0, .inr (6, [.ref tk, .int fk, .int fq])), (tk, .inr (10, [.ref tp, .int kd, .int sa, .int nu, .int be])), (tp, .inr (9, [.ref by_, .int le])), (by_, .inl (E.2.1 0, 800, .inl f))]) [0, 1, 2, 3] (by decide) rfl
          have hFc := va_free (wc := [(h0, .inr (6, [.ref tk, .int fk, .int fq])), (tk, .inr (10, [.ref tp, .int kd, .int sa, .int nu, .int be])), (tp, .inr (9, [.ref by_, .int le])), (by_, .inl (E.2.1 0, 800, .inl f))]) hD hS hA [0, 1, 2, 3] rfl
          refine va_calli (va_runV (As := [.int 1]) (rest := []) ⟨hx, hb, hml, hown, hts⟩ (c_X6_refuse l E h0 tk tp by_ fk fq kd sa nu be le f 1 H.size ) (cwV 1 hts gX6_takeOneOf_X6_refuse rfl rfl rfl hdV_X6_refuse ⟨Nat.le_of_ble_eq_true rfl, Nat.le_of_ble_eq_true rfl⟩) ⟨pcW_blind, va_recv hK hPc (ci := 6) (q0 := 0) rfl rfl, (pcW_pre hPc hkn hDc hst hS hFc)⟩ rfl rfl hl.1 rfl (lv_room (Nat.le_of_ble_eq_true rfl)) dX6_takeOneOf_72 ⟨Nat.le_of_ble_eq_true rfl, Nat.le_of_ble_eq_true rfl⟩) hS (fun q _ h => hFc q h) hFc (fun r_13 u t H1 locs ht hvm hw_14 hB hz1 hk1 hS => ?_)
          obtain ⟨u_15, u_16⟩ := u
          obtain ⟨hP1, hD1⟩ := hB
          rw [ht] at hP1
          try dsimp only at hw_14
          obtain ⟨hP, hD⟩ := va_join (wr := []) (w1 := [(h0, .inr (6, [.ref tk, .int u_15, .int u_16])), (tk, .inr (10, [.ref tp, .int kd, .int sa, .int nu, .int be])), (tp, .inr (9, [.ref by_, .int le])), (by_, .inl (E.2.1 0, 800, .inl f))]) hP hD [0, 1, 2, 3] [] rfl rfl (by decide) (by decide) hk1 hFc hP1 hD1
          generalize H1 = H at hP hS ⊢
          have hP : va_P E.1 vwCl [(h0, .inr (6, [.ref tk, .int u_15, .int u_16])), (tk, .inr (10, [.ref tp, .int kd, .int sa, .int nu, .int be])), (tp, .inr (9, [.ref by_, .int le])), (by_, .inl (E.2.1 0, 800, .inl f))] H := hP
          have hD : va_D A [(h0, .inr (6, [.ref tk, .int u_15, .int u_16])), (tk, .inr (10, [.ref tp, .int kd, .int sa, .int nu, .int be])), (tp, .inr (9, [.ref by_, .int le])), (by_, .inl (E.2.1 0, 800, .inl f))] := hD
          obtain rfl : r_13 = 0 := hw_14
          refine lv_pop hx hb dX6_takeOneOf_75 rfl ?_
          refine lv_goto (tgt := 86) hx hb dX6_takeOneOf_76 (by decide) ?_
          refine lv_iload hx hb dX6_takeOneOf_86 (lv_at hl 0 rfl) ?_
          have hP9 := hP.sub (ws' := [(h0, .inr (6, [.ref tk, .int u_15, .int u_16])), (tk, .inr (10, [.ref tp, .int kd, .int sa, .int nu, .int be])), (tp, .inr (9, [.ref by_, .int le])), (by_, .inl (E.2.1 0, 800, .inl f))]) [0, 1, 2, 3] rfl
          have hD9 := hD.sub (ws' := [(h0, .inr (6, [.ref tk, .int u_15, .int u_16])), (tk, .inr (10, [.ref tp, .int kd, .int sa, .int nu, .int be])), (tp, .inr (9, [.ref by_, .int le])), (by_, .inl (E.2.1 0, 800, .inl f))]) [0, 1, 2, 3] (by decide) rfl
          exact W.iret (v := (-1)) hx hb hr (fun t ht hW => ⟨⟨(-1), (u_15, u_16, kd, sa, nu, be), rfl, trivial, by rw [ht]; exact hP9, hD9⟩, hS.F ht⟩) hS.2.2 dX6_takeOneOf_88
        · refine lv_iconst (v := 3) hx hb dX6_takeOneOf_57 (by decide) ?_
          refine lv_goto (tgt := 62) hx hb dX6_takeOneOf_58 (by decide) ?_
          refine lv_istore (lv' := [(5, .int 3), (0, .ref h0), (1, .ref (E.2.2.1 i1)), (2, .ref (E.2.2.1 i2)), (3, .ref (E.2.2.1 i3)), (4, .ref (E.2.2.1 i4))]) hx hb dX6_takeOneOf_62 hl (by decide) rfl (fun ls hl => ?_)
          refine lv_iload hx hb dX6_takeOneOf_64 (lv_at hl 0 rfl) ?_
          refine lv_iconst (v := (-1)) hx hb dX6_takeOneOf_66 (by decide) ?_
          refine lv_icmp_ne (tgt := 79) hx hb dX6_takeOneOf_67 (by decide) (fun _ => ?_) (fun c9 => absurd c9 (by decide))
          refine lv_aload_n hx hb dX6_takeOneOf_79 rfl (lv_at hl 1 rfl) ?_
          refine va_get (D := E.1) (ci := 6) (v := .ref tk) (C := RX6) (T := TX6) (N := 3) hx hb hts inX6 hown hK hP 0 rfl rfl 0 (by decide) fl23 (fun _ h9 => h9) rfl dX6_takeOneOf_80 ?_
          have hPc := hP.sub (ws' := [(tk, .inr (10, [.ref tp, .int kd, .int sa, .int nu, .int be])), (tp, .inr (9, [.ref by_, .int le])), (by_, .inl (E.2.1 0, 800, .inl f))]) [1, 2, 3] rfl
          have hDc := hD.sub (ws' := [(tk, .inr (10, [.ref tp, .int kd, .int sa, .int nu, .int be])), (tp, .inr (9, [.ref by_, .int le])), (by_, .inl (E.2.1 0, 800, .inl f))]) [1, 2, 3] (by decide) rfl
          have hFc := va_free (wc := [(tk, .inr (10, [.ref tp, .int kd, .int sa, .int nu, .int be])), (tp, .inr (9, [.ref by_, .int le])), (by_, .inl (E.2.1 0, 800, .inl f))]) hD hS hA [1, 2, 3] rfl
          refine va_callv (va_runV (As := []) (rest := []) ⟨hx, hb, hml, hown, hts⟩ (c_X10_advance l E tk tp by_ kd sa nu be le f H.size ) (cwV 0 hts gX6_takeOneOf_X10_advance rfl rfl rfl hdV_X10_advance ⟨Nat.le_of_ble_eq_true rfl, Nat.le_of_ble_eq_true rfl⟩) ⟨pcW_blind, va_recv hK hPc (ci := 10) (q0 := 0) rfl rfl, (pcW_pre hPc hkn hDc hst hS hFc)⟩ rfl rfl hl.1 rfl (lv_room (Nat.le_of_ble_eq_true rfl)) dX6_takeOneOf_83 ⟨Nat.le_of_ble_eq_true rfl, Nat.le_of_ble_eq_true rfl⟩) hS (fun q _ h => hFc q h) hFc (fun u t H1 locs ht hvm hw_18 hB hz1 hk1 hS => ?_)
          obtain ⟨u_19, u_20, u_21, u_22⟩ := u
          obtain ⟨hP1, hD1⟩ := hB
          rw [ht] at hP1
          try dsimp only at hw_18
          obtain ⟨hP, hD⟩ := va_join (wr := [(h0, .inr (6, [.ref tk, .int fk, .int fq]))]) (w1 := [(tk, .inr (10, [.ref tp, .int u_19, .int u_20, .int u_21, .int u_22])), (tp, .inr (9, [.ref by_, .int le])), (by_, .inl (E.2.1 0, 800, .inl f))]) hP hD [1, 2, 3] [0] rfl rfl (by decide) (by decide) hk1 hFc hP1 hD1
          generalize H1 = H at hP hS ⊢
          have hP : va_P E.1 vwCl [(h0, .inr (6, [.ref tk, .int fk, .int fq])), (tk, .inr (10, [.ref tp, .int u_19, .int u_20, .int u_21, .int u_22])), (tp, .inr (9, [.ref by_, .int le])), (by_, .inl (E.2.1 0, 800, .inl f))] H := hP
          have hD : va_D A [(h0, .inr (6, [.ref tk, .int fk, .int fq])), (tk, .inr (10, [.ref tp, .int u_19, .int u_20, .int u_21, .int u_22])), (tp, .inr (9, [.ref by_, .int le])), (by_, .inl (E.2.1 0, 800, .inl f))] := hD
          refine lv_iload hx hb dX6_takeOneOf_86 (lv_at hl 0 rfl) ?_
          have hP9 := hP.sub (ws' := [(h0, .inr (6, [.ref tk, .int fk, .int fq])), (tk, .inr (10, [.ref tp, .int u_19, .int u_20, .int u_21, .int u_22])), (tp, .inr (9, [.ref by_, .int le])), (by_, .inl (E.2.1 0, 800, .inl f))]) [0, 1, 2, 3] rfl
          have hD9 := hD.sub (ws' := [(h0, .inr (6, [.ref tk, .int fk, .int fq])), (tk, .inr (10, [.ref tp, .int u_19, .int u_20, .int u_21, .int u_22])), (tp, .inr (9, [.ref by_, .int le])), (by_, .inl (E.2.1 0, 800, .inl f))]) [0, 1, 2, 3] (by decide) rfl
          exact W.iret (v := 3) hx hb hr (fun t ht hW => ⟨⟨3, (fk, fq, u_19, u_20, u_21, u_22), rfl, trivial, by rw [ht]; exact hP9, hD9⟩, hS.F ht⟩) hS.2.2 dX6_takeOneOf_88
      · refine lv_iconst (v := 2) hx hb dX6_takeOneOf_41 (by decide) ?_
        refine lv_goto (tgt := 62) hx hb dX6_takeOneOf_42 (by decide) ?_
        refine lv_istore (lv' := [(5, .int 2), (0, .ref h0), (1, .ref (E.2.2.1 i1)), (2, .ref (E.2.2.1 i2)), (3, .ref (E.2.2.1 i3)), (4, .ref (E.2.2.1 i4))]) hx hb dX6_takeOneOf_62 hl (by decide) rfl (fun ls hl => ?_)
        refine lv_iload hx hb dX6_takeOneOf_64 (lv_at hl 0 rfl) ?_
        refine lv_iconst (v := (-1)) hx hb dX6_takeOneOf_66 (by decide) ?_
        refine lv_icmp_ne (tgt := 79) hx hb dX6_takeOneOf_67 (by decide) (fun _ => ?_) (fun c9 => absurd c9 (by decide))
        refine lv_aload_n hx hb dX6_takeOneOf_79 rfl (lv_at hl 1 rfl) ?_
        refine va_get (D := E.1) (ci := 6) (v := .ref tk) (C := RX6) (T := TX6) (N := 3) hx hb hts inX6 hown hK hP 0 rfl rfl 0 (by decide) fl23 (fun _ h9 => h9) rfl dX6_takeOneOf_80 ?_
        have hPc := hP.sub (ws' := [(tk, .inr (10, [.ref tp, .int kd, .int sa, .int nu, .int be])), (tp, .inr (9, [.ref by_, .int le])), (by_, .inl (E.2.1 0, 800, .inl f))]) [1, 2, 3] rfl
        have hDc := hD.sub (ws' := [(tk, .inr (10, [.ref tp, .int kd, .int sa, .int nu, .int be])), (tp, .inr (9, [.ref by_, .int le])), (by_, .inl (E.2.1 0, 800, .inl f))]) [1, 2, 3] (by decide) rfl
        have hFc := va_free (wc := [(tk, .inr (10, [.ref tp, .int kd, .int sa, .int nu, .int be])), (tp, .inr (9, [.ref by_, .int le])), (by_, .inl (E.2.1 0, 800, .inl f))]) hD hS hA [1, 2, 3] rfl
        refine va_callv (va_runV (As := []) (rest := []) ⟨hx, hb, hml, hown, hts⟩ (c_X10_advance l E tk tp by_ kd sa nu be le f H.size ) (cwV 0 hts gX6_takeOneOf_X10_advance rfl rfl rfl hdV_X10_advance ⟨Nat.le_of_ble_eq_true rfl, Nat.le_of_ble_eq_true rfl⟩) ⟨pcW_blind, va_recv hK hPc (ci := 10) (q0 := 0) rfl rfl, (pcW_pre hPc hkn hDc hst hS hFc)⟩ rfl rfl hl.1 rfl (lv_room (Nat.le_of_ble_eq_true rfl)) dX6_takeOneOf_83 ⟨Nat.le_of_ble_eq_true rfl, Nat.le_of_ble_eq_true rfl⟩) hS (fun q _ h => hFc q h) hFc (fun u t H1 locs ht hvm hw_24 hB hz1 hk1 hS => ?_)
        obtain ⟨u_25, u_26, u_27, u_28⟩ := u
        obtain ⟨hP1, hD1⟩ := hB
        rw [ht] at hP1
        try dsimp only at hw_24
        obtain ⟨hP, hD⟩ := va_join (wr := [(h0, .inr (6, [.ref tk, .int fk, .int fq]))]) (w1 := [(tk, .inr (10, [.ref tp, .int u_25, .int u_26, .int u_27, .int u_28])), (tp, .inr (9, [.ref by_, .int le])), (by_, .inl (E.2.1 0, 800, .inl f))]) hP hD [1, 2, 3] [0] rfl rfl (by decide) (by decide) hk1 hFc hP1 hD1
        generalize H1 = H at hP hS ⊢
        have hP : va_P E.1 vwCl [(h0, .inr (6, [.ref tk, .int fk, .int fq])), (tk, .inr (10, [.ref tp, .int u_25, .int u_26, .int u_27, .int u_28])), (tp, .inr (9, [.ref by_, .int le])), (by_, .inl (E.2.1 0, 800, .inl f))] H := hP
        have hD : va_D A [(h0, .inr (6, [.ref tk, .int fk, .int fq])), (tk, .inr (10, [.ref tp, .int u_25, .int u_26, .int u_27, .int u_28])), (tp, .inr (9, [.ref by_, .int le])), (by_, .inl (E.2.1 0, 800, .inl f))] := hD
        refine lv_iload hx hb dX6_takeOneOf_86 (lv_at hl 0 rfl) ?_
        have hP9 := hP.sub (ws' := [(h0, .inr (6, [.ref tk, .int fk, .int fq])), (tk, .inr (10, [.ref tp, .int u_25, .int u_26, .int u_27, .int u_28])), (tp, .inr (9, [.ref by_, .int le])), (by_, .inl (E.2.1 0, 800, .inl f))]) [0, 1, 2, 3] rfl
        have hD9 := hD.sub (ws' := [(h0, .inr (6, [.ref tk, .int fk, .int fq])), (tk, .inr (10, [.ref tp, .int u_25, .int u_26, .int u_27, .int u_28])), (tp, .inr (9, [.ref by_, .int le])), (by_, .inl (E.2.1 0, 800, .inl f))]) [0, 1, 2, 3] (by decide) rfl
        exact W.iret (v := 2) hx hb hr (fun t ht hW => ⟨⟨2, (fk, fq, u_25, u_26, u_27, u_28), rfl, trivial, by rw [ht]; exact hP9, hD9⟩, hS.F ht⟩) hS.2.2 dX6_takeOneOf_88
    · refine lv_iconst (v := 1) hx hb dX6_takeOneOf_26 (by decide) ?_
      refine lv_goto (tgt := 62) hx hb dX6_takeOneOf_27 (by decide) ?_
      refine lv_istore (lv' := [(5, .int 1), (0, .ref h0), (1, .ref (E.2.2.1 i1)), (2, .ref (E.2.2.1 i2)), (3, .ref (E.2.2.1 i3)), (4, .ref (E.2.2.1 i4))]) hx hb dX6_takeOneOf_62 hl (by decide) rfl (fun ls hl => ?_)
      refine lv_iload hx hb dX6_takeOneOf_64 (lv_at hl 0 rfl) ?_
      refine lv_iconst (v := (-1)) hx hb dX6_takeOneOf_66 (by decide) ?_
      refine lv_icmp_ne (tgt := 79) hx hb dX6_takeOneOf_67 (by decide) (fun _ => ?_) (fun c9 => absurd c9 (by decide))
      refine lv_aload_n hx hb dX6_takeOneOf_79 rfl (lv_at hl 1 rfl) ?_
      refine va_get (D := E.1) (ci := 6) (v := .ref tk) (C := RX6) (T := TX6) (N := 3) hx hb hts inX6 hown hK hP 0 rfl rfl 0 (by decide) fl23 (fun _ h9 => h9) rfl dX6_takeOneOf_80 ?_
      have hPc := hP.sub (ws' := [(tk, .inr (10, [.ref tp, .int kd, .int sa, .int nu, .int be])), (tp, .inr (9, [.ref by_, .int le])), (by_, .inl (E.2.1 0, 800, .inl f))]) [1, 2, 3] rfl
      have hDc := hD.sub (ws' := [(tk, .inr (10, [.ref tp, .int kd, .int sa, .int nu, .int be])), (tp, .inr (9, [.ref by_, .int le])), (by_, .inl (E.2.1 0, 800, .inl f))]) [1, 2, 3] (by decide) rfl
      have hFc := va_free (wc := [(tk, .inr (10, [.ref tp, .int kd, .int sa, .int nu, .int be])), (tp, .inr (9, [.ref by_, .int le])), (by_, .inl (E.2.1 0, 800, .inl f))]) hD hS hA [1, 2, 3] rfl
      refine va_callv (va_runV (As := []) (rest := []) ⟨hx, hb, hml, hown, hts⟩ (c_X10_advance l E tk tp by_ kd sa nu be le f H.size ) (cwV 0 hts gX6_takeOneOf_X10_advance rfl rfl rfl hdV_X10_advance ⟨Nat.le_of_ble_eq_true rfl, Nat.le_of_ble_eq_true rfl⟩) ⟨pcW_blind, va_recv hK hPc (ci := 10) (q0 := 0) rfl rfl, (pcW_pre hPc hkn hDc hst hS hFc)⟩ rfl rfl hl.1 rfl (lv_room (Nat.le_of_ble_eq_true rfl)) dX6_takeOneOf_83 ⟨Nat.le_of_ble_eq_true rfl, Nat.le_of_ble_eq_true rfl⟩) hS (fun q _ h => hFc q h) hFc (fun u t H1 locs ht hvm hw_30 hB hz1 hk1 hS => ?_)
      obtain ⟨u_31, u_32, u_33, u_34⟩ := u
      obtain ⟨hP1, hD1⟩ := hB
      rw [ht] at hP1
      try dsimp only at hw_30
      obtain ⟨hP, hD⟩ := va_join (wr := [(h0, .inr (6, [.ref tk, .int fk, .int fq]))]) (w1 := [(tk, .inr (10, [.ref tp, .int u_31, .int u_32, .int u_33, .int u_34])), (tp, .inr (9, [.ref by_, .int le])), (by_, .inl (E.2.1 0, 800, .inl f))]) hP hD [1, 2, 3] [0] rfl rfl (by decide) (by decide) hk1 hFc hP1 hD1
      generalize H1 = H at hP hS ⊢
      have hP : va_P E.1 vwCl [(h0, .inr (6, [.ref tk, .int fk, .int fq])), (tk, .inr (10, [.ref tp, .int u_31, .int u_32, .int u_33, .int u_34])), (tp, .inr (9, [.ref by_, .int le])), (by_, .inl (E.2.1 0, 800, .inl f))] H := hP
      have hD : va_D A [(h0, .inr (6, [.ref tk, .int fk, .int fq])), (tk, .inr (10, [.ref tp, .int u_31, .int u_32, .int u_33, .int u_34])), (tp, .inr (9, [.ref by_, .int le])), (by_, .inl (E.2.1 0, 800, .inl f))] := hD
      refine lv_iload hx hb dX6_takeOneOf_86 (lv_at hl 0 rfl) ?_
      have hP9 := hP.sub (ws' := [(h0, .inr (6, [.ref tk, .int fk, .int fq])), (tk, .inr (10, [.ref tp, .int u_31, .int u_32, .int u_33, .int u_34])), (tp, .inr (9, [.ref by_, .int le])), (by_, .inl (E.2.1 0, 800, .inl f))]) [0, 1, 2, 3] rfl
      have hD9 := hD.sub (ws' := [(h0, .inr (6, [.ref tk, .int fk, .int fq])), (tk, .inr (10, [.ref tp, .int u_31, .int u_32, .int u_33, .int u_34])), (tp, .inr (9, [.ref by_, .int le])), (by_, .inl (E.2.1 0, 800, .inl f))]) [0, 1, 2, 3] (by decide) rfl
      exact W.iret (v := 1) hx hb hr (fun t ht hW => ⟨⟨1, (fk, fq, u_31, u_32, u_33, u_34), rfl, trivial, by rw [ht]; exact hP9, hD9⟩, hS.F ht⟩) hS.2.2 dX6_takeOneOf_88
  · refine lv_iconst (v := 0) hx hb dX6_takeOneOf_11 (by decide) ?_
    refine lv_goto (tgt := 62) hx hb dX6_takeOneOf_12 (by decide) ?_
    refine lv_istore (lv' := [(5, .int 0), (0, .ref h0), (1, .ref (E.2.2.1 i1)), (2, .ref (E.2.2.1 i2)), (3, .ref (E.2.2.1 i3)), (4, .ref (E.2.2.1 i4))]) hx hb dX6_takeOneOf_62 hl (by decide) rfl (fun ls hl => ?_)
    refine lv_iload hx hb dX6_takeOneOf_64 (lv_at hl 0 rfl) ?_
    refine lv_iconst (v := (-1)) hx hb dX6_takeOneOf_66 (by decide) ?_
    refine lv_icmp_ne (tgt := 79) hx hb dX6_takeOneOf_67 (by decide) (fun _ => ?_) (fun c9 => absurd c9 (by decide))
    refine lv_aload_n hx hb dX6_takeOneOf_79 rfl (lv_at hl 1 rfl) ?_
    refine va_get (D := E.1) (ci := 6) (v := .ref tk) (C := RX6) (T := TX6) (N := 3) hx hb hts inX6 hown hK hP 0 rfl rfl 0 (by decide) fl23 (fun _ h9 => h9) rfl dX6_takeOneOf_80 ?_
    have hPc := hP.sub (ws' := [(tk, .inr (10, [.ref tp, .int kd, .int sa, .int nu, .int be])), (tp, .inr (9, [.ref by_, .int le])), (by_, .inl (E.2.1 0, 800, .inl f))]) [1, 2, 3] rfl
    have hDc := hD.sub (ws' := [(tk, .inr (10, [.ref tp, .int kd, .int sa, .int nu, .int be])), (tp, .inr (9, [.ref by_, .int le])), (by_, .inl (E.2.1 0, 800, .inl f))]) [1, 2, 3] (by decide) rfl
    have hFc := va_free (wc := [(tk, .inr (10, [.ref tp, .int kd, .int sa, .int nu, .int be])), (tp, .inr (9, [.ref by_, .int le])), (by_, .inl (E.2.1 0, 800, .inl f))]) hD hS hA [1, 2, 3] rfl
    refine va_callv (va_runV (As := []) (rest := []) ⟨hx, hb, hml, hown, hts⟩ (c_X10_advance l E tk tp by_ kd sa nu be le f H.size ) (cwV 0 hts gX6_takeOneOf_X10_advance rfl rfl rfl hdV_X10_advance ⟨Nat.le_of_ble_eq_true rfl, Nat.le_of_ble_eq_true rfl⟩) ⟨pcW_blind, va_recv hK hPc (ci := 10) (q0 := 0) rfl rfl, (pcW_pre hPc hkn hDc hst hS hFc)⟩ rfl rfl hl.1 rfl (lv_room (Nat.le_of_ble_eq_true rfl)) dX6_takeOneOf_83 ⟨Nat.le_of_ble_eq_true rfl, Nat.le_of_ble_eq_true rfl⟩) hS (fun q _ h => hFc q h) hFc (fun u t H1 locs ht hvm hw_36 hB hz1 hk1 hS => ?_)
    obtain ⟨u_37, u_38, u_39, u_40⟩ := u
    obtain ⟨hP1, hD1⟩ := hB
    rw [ht] at hP1
    try dsimp only at hw_36
    obtain ⟨hP, hD⟩ := va_join (wr := [(h0, .inr (6, [.ref tk, .int fk, .int fq]))]) (w1 := [(tk, .inr (10, [.ref tp, .int u_37, .int u_38, .int u_39, .int u_40])), (tp, .inr (9, [.ref by_, .int le])), (by_, .inl (E.2.1 0, 800, .inl f))]) hP hD [1, 2, 3] [0] rfl rfl (by decide) (by decide) hk1 hFc hP1 hD1
    generalize H1 = H at hP hS ⊢
    have hP : va_P E.1 vwCl [(h0, .inr (6, [.ref tk, .int fk, .int fq])), (tk, .inr (10, [.ref tp, .int u_37, .int u_38, .int u_39, .int u_40])), (tp, .inr (9, [.ref by_, .int le])), (by_, .inl (E.2.1 0, 800, .inl f))] H := hP
    have hD : va_D A [(h0, .inr (6, [.ref tk, .int fk, .int fq])), (tk, .inr (10, [.ref tp, .int u_37, .int u_38, .int u_39, .int u_40])), (tp, .inr (9, [.ref by_, .int le])), (by_, .inl (E.2.1 0, 800, .inl f))] := hD
    refine lv_iload hx hb dX6_takeOneOf_86 (lv_at hl 0 rfl) ?_
    have hP9 := hP.sub (ws' := [(h0, .inr (6, [.ref tk, .int fk, .int fq])), (tk, .inr (10, [.ref tp, .int u_37, .int u_38, .int u_39, .int u_40])), (tp, .inr (9, [.ref by_, .int le])), (by_, .inl (E.2.1 0, 800, .inl f))]) [0, 1, 2, 3] rfl
    have hD9 := hD.sub (ws' := [(h0, .inr (6, [.ref tk, .int fk, .int fq])), (tk, .inr (10, [.ref tp, .int u_37, .int u_38, .int u_39, .int u_40])), (tp, .inr (9, [.ref by_, .int le])), (by_, .inl (E.2.1 0, 800, .inl f))]) [0, 1, 2, 3] (by decide) rfl
    exact W.iret (v := 0) hx hb hr (fun t ht hW => ⟨⟨0, (fk, fq, u_37, u_38, u_39, u_40), rfl, trivial, by rw [ht]; exact hP9, hD9⟩, hS.F ht⟩) hS.2.2 dX6_takeOneOf_88
set_option maxHeartbeats 4000000 in
set_option maxRecDepth 100000 in
theorem c_X6_beginText (l : Launch) (E : vE) (h0 : Nat) (tk : Nat) (tp : Nat) (by_ : Nat) (fk : Int32) (fq : Int32) (kd : Int32) (sa : Int32) (nu : Int32) (be : Int32) (le : Int32) (f : Nat → Int32) (sz : Nat) : Met l yX6_beginText wsX6_beginText ({ frames := 4, cells := 0, slots := 0, locals := 82 }) (pcW E [.ref h0] sz [(h0, .inr (6, [.ref tk, .int fk, .int fq])), (tk, .inr (10, [.ref tp, .int kd, .int sa, .int nu, .int be])), (tp, .inr (9, [.ref by_, .int le])), (by_, .inl (E.2.1 0, 800, .inl f))]) (va_Qv (fun (u : Int32 × Int32 × Int32 × Int32 × Int32 × Int32) => match u with | (fk2, fq2, kd2, sa2, nu2, be2) => True) (fun (u : Int32 × Int32 × Int32 × Int32 × Int32 × Int32) (t : State) => match u with | (fk2, fq2, kd2, sa2, nu2, be2) => wB E (va_A [(h0, .inr (6, [.ref tk, .int fk, .int fq])), (tk, .inr (10, [.ref tp, .int kd, .int sa, .int nu, .int be])), (tp, .inr (9, [.ref by_, .int le])), (by_, .inl (E.2.1 0, 800, .inl f))] sz) [(h0, .inr (6, [.ref tk, .int fk2, .int fq2])), (tk, .inr (10, [.ref tp, .int kd2, .int sa2, .int nu2, .int be2])), (tp, .inr (9, [.ref by_, .int le])), (by_, .inl (E.2.1 0, 800, .inl f))] t) (va_A [(h0, .inr (6, [.ref tk, .int fk, .int fq])), (tk, .inr (10, [.ref tp, .int kd, .int sa, .int nu, .int be])), (tp, .inr (9, [.ref by_, .int le])), (by_, .inl (E.2.1 0, 800, .inl f))] sz)) 0 0 (va_A [(h0, .inr (6, [.ref tk, .int fk, .int fq])), (tk, .inr (10, [.ref tp, .int kd, .int sa, .int nu, .int be])), (tp, .inr (9, [.ref by_, .int le])), (by_, .inl (E.2.1 0, 800, .inl f))] sz) := by
  refine Met.ofW (cc := cX6_beginText) (maxL := 1) (ret := none) (by decide) rfl ?_
  intro p e s m args below meth c s₁ B hml hv
  obtain ⟨rfl, hsz, hP, hkn, hD0, hst⟩ := hv
  have hx := B.exec
  have hb := B.bytes
  have hr := B.returns
  have hts := atoms_spec (ws := wsX6_beginText) B.pre
  have hown : s.vm.findClass RX6 = some m.cls := findClass_of_methodNamed B.named
  have hlocks := B.notSynchronized
  subst hsz
  have hD := hD0.self (sz := s.heap.size)
  have hK := hkn.1
  have hAO := hkn.2.2.1
  generalize hAe : va_A [(h0, .inr (6, [.ref tk, .int fk, .int fq])), (tk, .inr (10, [.ref tp, .int kd, .int sa, .int nu, .int be])), (tp, .inr (9, [.ref by_, .int le])), (by_, .inl (E.2.1 0, 800, .inl f))] s.heap.size = A at hD hst ⊢
  have hA : ∀ q : Nat, s.heap.size ≤ q → A q := fun q h => by rw [← hAe]; exact Or.inr h
  have hS : va_S A s.heap s.heap [] := va_S.rf
  have hP : va_P E.1 vwCl [(h0, .inr (6, [.ref tk, .int fk, .int fq])), (tk, .inr (10, [.ref tp, .int kd, .int sa, .int nu, .int be])), (tp, .inr (9, [.ref by_, .int le])), (by_, .inl (E.2.1 0, 800, .inl f))] s.heap := hP
  have hl := lv_entry ([.ref h0]) (n := 1) (Nat.le_of_ble_eq_true rfl)
  rw [lg_entry_eq]
  generalize (lg_sl ([.ref h0]) ++ List.replicate (1 - (lg_sl ([.ref h0])).length) Slot.unset).toArray = ls at hl ⊢
  have hl : lv_has ls 1 [(0, .ref h0)] := hl
  have fl9 := hts (.fieldLink RX6 9 "BoatsHome$Reader" "faultKind" "I") (by first | exact List.mem_of_getElem? (i := 1) rfl | decide +kernel)
  have fl15 := hts (.fieldLink RX6 15 "BoatsHome$Reader" "faultPlace" "I") (by first | exact List.mem_of_getElem? (i := 2) rfl | decide +kernel)
  have fl23 := hts (.fieldLink RX6 23 "BoatsHome$Reader" "tokens" "LBoatsHome$Tokens;") (by first | exact List.mem_of_getElem? (i := 3) rfl | decide +kernel)
  have inX6 : ∀ w ∈ u_ws RX6 TX6 3, w ∈ wsX6_beginText := by first | exact fun w h9 => (List.mem_cons_of_mem _ (List.mem_append_left _ (List.mem_append_left _ (List.mem_append_right _ h9)))) | decide +kernel
  refine lv_aload_n hx hb dX6_beginText_0 rfl (lv_at hl 0 rfl) ?_
  refine lv_iconst (v := 0) hx hb dX6_beginText_1 (by decide) ?_
  refine va_put (D := E.1) (ci := 6) (v := .int 0) (ty := .int) (C := RX6) (T := TX6) (N := 3) hx hb hts inX6 tyX6 tyX6_ok nmX6 hown hK hP hD hS 0 rfl rfl 1 (by decide) fl9 (fun _ h9 => h9) rfl (by decide +kernel) rfl rfl (Nat.le_of_ble_eq_true rfl) dX6_beginText_2 (fun H locs hP hD hS => ?_)
  have hP : va_P E.1 vwCl [(h0, .inr (6, [.ref tk, .int 0, .int fq])), (tk, .inr (10, [.ref tp, .int kd, .int sa, .int nu, .int be])), (tp, .inr (9, [.ref by_, .int le])), (by_, .inl (E.2.1 0, 800, .inl f))] H := hP
  have hD : va_D A [(h0, .inr (6, [.ref tk, .int 0, .int fq])), (tk, .inr (10, [.ref tp, .int kd, .int sa, .int nu, .int be])), (tp, .inr (9, [.ref by_, .int le])), (by_, .inl (E.2.1 0, 800, .inl f))] := hD
  refine lv_aload_n hx hb dX6_beginText_5 rfl (lv_at hl 0 rfl) ?_
  refine lv_iconst (v := (-1)) hx hb dX6_beginText_6 (by decide) ?_
  refine va_put (D := E.1) (ci := 6) (v := .int (-1)) (ty := .int) (C := RX6) (T := TX6) (N := 3) hx hb hts inX6 tyX6 tyX6_ok nmX6 hown hK hP hD hS 0 rfl rfl 2 (by decide) fl15 (fun _ h9 => h9) rfl (by decide +kernel) rfl rfl (Nat.le_of_ble_eq_true rfl) dX6_beginText_7 (fun H locs hP hD hS => ?_)
  have hP : va_P E.1 vwCl [(h0, .inr (6, [.ref tk, .int 0, .int (-1)])), (tk, .inr (10, [.ref tp, .int kd, .int sa, .int nu, .int be])), (tp, .inr (9, [.ref by_, .int le])), (by_, .inl (E.2.1 0, 800, .inl f))] H := hP
  have hD : va_D A [(h0, .inr (6, [.ref tk, .int 0, .int (-1)])), (tk, .inr (10, [.ref tp, .int kd, .int sa, .int nu, .int be])), (tp, .inr (9, [.ref by_, .int le])), (by_, .inl (E.2.1 0, 800, .inl f))] := hD
  refine lv_aload_n hx hb dX6_beginText_10 rfl (lv_at hl 0 rfl) ?_
  refine va_get (D := E.1) (ci := 6) (v := .ref tk) (C := RX6) (T := TX6) (N := 3) hx hb hts inX6 hown hK hP 0 rfl rfl 0 (by decide) fl23 (fun _ h9 => h9) rfl dX6_beginText_11 ?_
  have hPc := hP.sub (ws' := [(tk, .inr (10, [.ref tp, .int kd, .int sa, .int nu, .int be])), (tp, .inr (9, [.ref by_, .int le])), (by_, .inl (E.2.1 0, 800, .inl f))]) [1, 2, 3] rfl
  have hDc := hD.sub (ws' := [(tk, .inr (10, [.ref tp, .int kd, .int sa, .int nu, .int be])), (tp, .inr (9, [.ref by_, .int le])), (by_, .inl (E.2.1 0, 800, .inl f))]) [1, 2, 3] (by decide) rfl
  have hFc := va_free (wc := [(tk, .inr (10, [.ref tp, .int kd, .int sa, .int nu, .int be])), (tp, .inr (9, [.ref by_, .int le])), (by_, .inl (E.2.1 0, 800, .inl f))]) hD hS hA [1, 2, 3] rfl
  refine va_callv (va_runV (As := []) (rest := []) ⟨hx, hb, hml, hown, hts⟩ (c_X10_restart l E tk tp by_ kd sa nu be le f H.size ) (cwV 0 hts gX6_beginText_X10_restart rfl rfl rfl hdV_X10_restart ⟨Nat.le_of_ble_eq_true rfl, Nat.le_of_ble_eq_true rfl⟩) ⟨pcW_blind, va_recv hK hPc (ci := 10) (q0 := 0) rfl rfl, (pcW_pre hPc hkn hDc hst hS hFc)⟩ rfl rfl hl.1 rfl (lv_room (Nat.le_of_ble_eq_true rfl)) dX6_beginText_14 ⟨Nat.le_of_ble_eq_true rfl, Nat.le_of_ble_eq_true rfl⟩) hS (fun q _ h => hFc q h) hFc (fun u t H1 locs ht hvm hw_2 hB hz1 hk1 hS => ?_)
  obtain ⟨u_3, u_4, u_5, u_6⟩ := u
  obtain ⟨hP1, hD1⟩ := hB
  rw [ht] at hP1
  try dsimp only at hw_2
  obtain ⟨hP, hD⟩ := va_join (wr := [(h0, .inr (6, [.ref tk, .int 0, .int (-1)]))]) (w1 := [(tk, .inr (10, [.ref tp, .int u_3, .int u_4, .int u_5, .int u_6])), (tp, .inr (9, [.ref by_, .int le])), (by_, .inl (E.2.1 0, 800, .inl f))]) hP hD [1, 2, 3] [0] rfl rfl (by decide) (by decide) hk1 hFc hP1 hD1
  generalize H1 = H at hP hS ⊢
  have hP : va_P E.1 vwCl [(h0, .inr (6, [.ref tk, .int 0, .int (-1)])), (tk, .inr (10, [.ref tp, .int u_3, .int u_4, .int u_5, .int u_6])), (tp, .inr (9, [.ref by_, .int le])), (by_, .inl (E.2.1 0, 800, .inl f))] H := hP
  have hD : va_D A [(h0, .inr (6, [.ref tk, .int 0, .int (-1)])), (tk, .inr (10, [.ref tp, .int u_3, .int u_4, .int u_5, .int u_6])), (tp, .inr (9, [.ref by_, .int le])), (by_, .inl (E.2.1 0, 800, .inl f))] := hD
  have hP9 := hP.sub (ws' := [(h0, .inr (6, [.ref tk, .int 0, .int (-1)])), (tk, .inr (10, [.ref tp, .int u_3, .int u_4, .int u_5, .int u_6])), (tp, .inr (9, [.ref by_, .int le])), (by_, .inl (E.2.1 0, 800, .inl f))]) [0, 1, 2, 3] rfl
  have hD9 := hD.sub (ws' := [(h0, .inr (6, [.ref tk, .int 0, .int (-1)])), (tk, .inr (10, [.ref tp, .int u_3, .int u_4, .int u_5, .int u_6])), (tp, .inr (9, [.ref by_, .int le])), (by_, .inl (E.2.1 0, 800, .inl f))]) [0, 1, 2, 3] (by decide) rfl
  exact W.vret hx hb hr (fun t ht hW => ⟨⟨(0, (-1), u_3, u_4, u_5, u_6), rfl, trivial, by rw [ht]; exact hP9, hD9⟩, hS.F ht⟩) hS.2.2 dX6_beginText_17
set_option maxHeartbeats 4000000 in
set_option maxRecDepth 100000 in
theorem c_X7_add (l : Launch) (E : vE) (h0 : Nat) (s1 : Nat) (s2 : Nat) (s3 : Nat) (s4 : Nat) (sz_ : Int32) (r1 : Nat → Int32) (r2 : Nat → Int32) (r3 : Nat → Int32) (r4 : Nat → Int32) (wh : Int32) (ab : Int32) (bo : Int32) (ac : Int32) (sz : Nat) : Met l yX7_add wsX7_add ({ frames := 1, cells := 0, slots := 0, locals := 21 }) (pcW E [.ref h0, .int wh, .int ab, .int bo, .int ac] sz [(h0, .inr (7, [.ref s1, .ref s2, .ref s3, .ref s4, .int sz_])), (s1, .inl (E.2.1 0, 12, .inl r1)), (s2, .inl (E.2.1 1, 12, .inl r2)), (s3, .inl (E.2.1 0, 12, .inl r3)), (s4, .inl (E.2.1 0, 12, .inl r4))]) (va_Qv (fun (u : Int32 × (Nat → Int32) × (Nat → Int32) × (Nat → Int32) × (Nat → Int32)) => match u with | (sz2, r12, r22, r32, r42) => True) (fun (u : Int32 × (Nat → Int32) × (Nat → Int32) × (Nat → Int32) × (Nat → Int32)) (t : State) => match u with | (sz2, r12, r22, r32, r42) => wB E (va_A [(h0, .inr (7, [.ref s1, .ref s2, .ref s3, .ref s4, .int sz_])), (s1, .inl (E.2.1 0, 12, .inl r1)), (s2, .inl (E.2.1 1, 12, .inl r2)), (s3, .inl (E.2.1 0, 12, .inl r3)), (s4, .inl (E.2.1 0, 12, .inl r4))] sz) [(h0, .inr (7, [.ref s1, .ref s2, .ref s3, .ref s4, .int sz2])), (s1, .inl (E.2.1 0, 12, .inl r12)), (s2, .inl (E.2.1 1, 12, .inl r22)), (s3, .inl (E.2.1 0, 12, .inl r32)), (s4, .inl (E.2.1 0, 12, .inl r42))] t) (va_A [(h0, .inr (7, [.ref s1, .ref s2, .ref s3, .ref s4, .int sz_])), (s1, .inl (E.2.1 0, 12, .inl r1)), (s2, .inl (E.2.1 1, 12, .inl r2)), (s3, .inl (E.2.1 0, 12, .inl r3)), (s4, .inl (E.2.1 0, 12, .inl r4))] sz)) 0 0 (va_A [(h0, .inr (7, [.ref s1, .ref s2, .ref s3, .ref s4, .int sz_])), (s1, .inl (E.2.1 0, 12, .inl r1)), (s2, .inl (E.2.1 1, 12, .inl r2)), (s3, .inl (E.2.1 0, 12, .inl r3)), (s4, .inl (E.2.1 0, 12, .inl r4))] sz) := by
  refine Met.ofW (cc := cX7_add) (maxL := 5) (ret := none) (by decide) rfl ?_
  intro p e s m args below meth c s₁ B hml hv
  obtain ⟨rfl, hsz, hP, hkn, hD0, hst⟩ := hv
  have hx := B.exec
  have hb := B.bytes
  have hr := B.returns
  have hts := atoms_spec (ws := wsX7_add) B.pre
  have hown : s.vm.findClass RX7 = some m.cls := findClass_of_methodNamed B.named
  have hlocks := B.notSynchronized
  subst hsz
  have hD := hD0.self (sz := s.heap.size)
  have hK := hkn.1
  have hAO := hkn.2.2.1
  generalize hAe : va_A [(h0, .inr (7, [.ref s1, .ref s2, .ref s3, .ref s4, .int sz_])), (s1, .inl (E.2.1 0, 12, .inl r1)), (s2, .inl (E.2.1 1, 12, .inl r2)), (s3, .inl (E.2.1 0, 12, .inl r3)), (s4, .inl (E.2.1 0, 12, .inl r4))] s.heap.size = A at hD hst ⊢
  have hA : ∀ q : Nat, s.heap.size ≤ q → A q := fun q h => by rw [← hAe]; exact Or.inr h
  have hS : va_S A s.heap s.heap [] := va_S.rf
  have hP : va_P E.1 vwCl [(h0, .inr (7, [.ref s1, .ref s2, .ref s3, .ref s4, .int sz_])), (s1, .inl (E.2.1 0, 12, .inl r1)), (s2, .inl (E.2.1 1, 12, .inl r2)), (s3, .inl (E.2.1 0, 12, .inl r3)), (s4, .inl (E.2.1 0, 12, .inl r4))] s.heap := hP
  have hl := lv_entry ([.ref h0, .int wh, .int ab, .int bo, .int ac]) (n := 5) (Nat.le_of_ble_eq_true rfl)
  rw [lg_entry_eq]
  generalize (lg_sl ([.ref h0, .int wh, .int ab, .int bo, .int ac]) ++ List.replicate (5 - (lg_sl ([.ref h0, .int wh, .int ab, .int bo, .int ac])).length) Slot.unset).toArray = ls at hl ⊢
  have hl : lv_has ls 5 [(0, .ref h0), (1, .int wh), (2, .int ab), (3, .int bo), (4, .int ac)] := hl
  have fl9 := hts (.fieldLink RX7 9 "BoatsHome$Rules" "seen" "[I") (by first | exact List.mem_of_getElem? (i := 2) rfl | decide +kernel)
  have fl15 := hts (.fieldLink RX7 15 "BoatsHome$Rules" "above" "[Z") (by first | exact List.mem_of_getElem? (i := 3) rfl | decide +kernel)
  have fl19 := hts (.fieldLink RX7 19 "BoatsHome$Rules" "bounds" "[I") (by first | exact List.mem_of_getElem? (i := 4) rfl | decide +kernel)
  have fl22 := hts (.fieldLink RX7 22 "BoatsHome$Rules" "acts" "[I") (by first | exact List.mem_of_getElem? (i := 5) rfl | decide +kernel)
  have fl25 := hts (.fieldLink RX7 25 "BoatsHome$Rules" "size" "I") (by first | exact List.mem_of_getElem? (i := 1) rfl | decide +kernel)
  have inX7 : ∀ w ∈ u_ws RX7 TX7 5, w ∈ wsX7_add := by first | exact fun w h9 => (List.mem_cons_of_mem _ (List.mem_append_right _ h9)) | decide +kernel
  refine lv_aload_n hx hb dX7_add_0 rfl (lv_at hl 0 rfl) ?_
  refine va_get (D := E.1) (ci := 7) (v := .int sz_) (C := RX7) (T := TX7) (N := 5) hx hb hts inX7 hown hK hP 0 rfl rfl 4 (by decide) fl25 (fun _ h9 => h9) rfl dX7_add_1 ?_
  refine lv_bipush (v := 12) hx hb dX7_add_4 (by decide) ?_
  have hPc := hP.sub (ws' := []) [] rfl
  have hDc := hD.sub (ws' := []) [] (by decide) rfl
  have hFc := va_free (wc := []) hD hS hA [] rfl
  refine va_calli (va_runSN (As := [.int sz_, .int 12]) (rest := []) ⟨hx, hb, hml, hown, hts⟩ (c_X11_below l E sz_ 12 11 s.heap.size (lt_le (by decide))) ⟨va_cnB 2 hts gX7_add_X11_below_n29 rfl rfl rfl (hkn.2.1 (.methodLinkNest RX7 29 yX11_below "BoatsHome") (by decide +kernel)) (hts (.initialized RX11) (by first | exact List.mem_of_getElem? (i := 7) rfl | decide +kernel)) (by decide +kernel) ⟨Nat.le_of_ble_eq_true rfl, Nat.le_of_ble_eq_true rfl⟩, hts (.static yX11_below) (by first | exact List.mem_of_getElem? (i := 6) rfl | decide +kernel), trivial⟩ ⟨pcW_blind, (pcW_pre hPc hkn hDc hst hS hFc)⟩ rfl rfl hl.1 rfl (lv_room (Nat.le_of_ble_eq_true rfl)) dX7_add_6 ⟨Nat.le_of_ble_eq_true rfl, Nat.le_of_ble_eq_true rfl⟩) hS (fun q _ h => hFc q h) hFc (fun r_1 u t H1 locs ht hvm hw_2 hB hz1 hk1 hS => ?_)
  obtain ⟨hP1, hD1⟩ := hB
  rw [ht] at hP1
  try dsimp only at hw_2
  obtain ⟨hP, hD⟩ := va_join (wr := [(h0, .inr (7, [.ref s1, .ref s2, .ref s3, .ref s4, .int sz_])), (s1, .inl (E.2.1 0, 12, .inl r1)), (s2, .inl (E.2.1 1, 12, .inl r2)), (s3, .inl (E.2.1 0, 12, .inl r3)), (s4, .inl (E.2.1 0, 12, .inl r4))]) (w1 := []) hP hD [] [0, 1, 2, 3, 4] rfl rfl (by decide) (by decide) hk1 hFc hP1 hD1
  generalize H1 = H at hP hS ⊢
  have hP : va_P E.1 vwCl [(h0, .inr (7, [.ref s1, .ref s2, .ref s3, .ref s4, .int sz_])), (s1, .inl (E.2.1 0, 12, .inl r1)), (s2, .inl (E.2.1 1, 12, .inl r2)), (s3, .inl (E.2.1 0, 12, .inl r3)), (s4, .inl (E.2.1 0, 12, .inl r4))] H := hP
  have hD : va_D A [(h0, .inr (7, [.ref s1, .ref s2, .ref s3, .ref s4, .int sz_])), (s1, .inl (E.2.1 0, 12, .inl r1)), (s2, .inl (E.2.1 1, 12, .inl r2)), (s3, .inl (E.2.1 0, 12, .inl r3)), (s4, .inl (E.2.1 0, 12, .inl r4))] := hD
  refine lv_if_eq (tgt := 63) hx hb dX7_add_9 (by decide) (fun c_3 => ?_) (fun c_3 => ?_)
  · have b_4 : inR sz_ 0 11 = false := bz hw_2 c_3
    have hP9 := hP.sub (ws' := [(h0, .inr (7, [.ref s1, .ref s2, .ref s3, .ref s4, .int sz_])), (s1, .inl (E.2.1 0, 12, .inl r1)), (s2, .inl (E.2.1 1, 12, .inl r2)), (s3, .inl (E.2.1 0, 12, .inl r3)), (s4, .inl (E.2.1 0, 12, .inl r4))]) [0, 1, 2, 3, 4] rfl
    have hD9 := hD.sub (ws' := [(h0, .inr (7, [.ref s1, .ref s2, .ref s3, .ref s4, .int sz_])), (s1, .inl (E.2.1 0, 12, .inl r1)), (s2, .inl (E.2.1 1, 12, .inl r2)), (s3, .inl (E.2.1 0, 12, .inl r3)), (s4, .inl (E.2.1 0, 12, .inl r4))]) [0, 1, 2, 3, 4] (by decide) rfl
    exact W.vret hx hb hr (fun t ht hW => ⟨⟨(sz_, r1, r2, r3, r4), rfl, trivial, by rw [ht]; exact hP9, hD9⟩, hS.F ht⟩) hS.2.2 dX7_add_63
  · have b_5 : inR sz_ 0 11 = true := bn hw_2 c_3
    refine lv_aload_n hx hb dX7_add_12 rfl (lv_at hl 0 rfl) ?_
    refine va_get (D := E.1) (ci := 7) (v := .ref s1) (C := RX7) (T := TX7) (N := 5) hx hb hts inX7 hown hK hP 0 rfl rfl 0 (by decide) fl9 (fun _ h9 => h9) rfl dX7_add_13 ?_
    refine lv_aload_n hx hb dX7_add_16 rfl (lv_at hl 0 rfl) ?_
    refine va_get (D := E.1) (ci := 7) (v := .int sz_) (C := RX7) (T := TX7) (N := 5) hx hb hts inX7 hown hK hP 0 rfl rfl 4 (by decide) fl25 (fun _ h9 => h9) rfl dX7_add_17 ?_
    refine lv_iload_n hx hb dX7_add_20 rfl (lv_at hl 1 rfl) ?_
    have hi_6 : vp_in sz_ 12 := inR_in (by decide) b_5
    refine va_iast hx hb hK hP hD hS 1 0 rfl rfl hi_6 dX7_add_21 (fun H locs hP hD hS => ?_)
    have hP : va_P E.1 vwCl [(h0, .inr (7, [.ref s1, .ref s2, .ref s3, .ref s4, .int sz_])), (s1, .inl (E.2.1 0, 12, .inl (upd r1 sz_.toNatClampNeg wh))), (s2, .inl (E.2.1 1, 12, .inl r2)), (s3, .inl (E.2.1 0, 12, .inl r3)), (s4, .inl (E.2.1 0, 12, .inl r4))] H := hP
    have hD : va_D A [(h0, .inr (7, [.ref s1, .ref s2, .ref s3, .ref s4, .int sz_])), (s1, .inl (E.2.1 0, 12, .inl (upd r1 sz_.toNatClampNeg wh))), (s2, .inl (E.2.1 1, 12, .inl r2)), (s3, .inl (E.2.1 0, 12, .inl r3)), (s4, .inl (E.2.1 0, 12, .inl r4))] := hD
    obtain ⟨f_7, ef_7⟩ : ∃ g : Nat → Int32, g = upd r1 sz_.toNatClampNeg wh := ⟨_, rfl⟩
    rw [← ef_7] at hP hD
    refine lv_aload_n hx hb dX7_add_22 rfl (lv_at hl 0 rfl) ?_
    refine va_get (D := E.1) (ci := 7) (v := .ref s2) (C := RX7) (T := TX7) (N := 5) hx hb hts inX7 hown hK hP 0 rfl rfl 1 (by decide) fl15 (fun _ h9 => h9) rfl dX7_add_23 ?_
    refine lv_aload_n hx hb dX7_add_26 rfl (lv_at hl 0 rfl) ?_
    refine va_get (D := E.1) (ci := 7) (v := .int sz_) (C := RX7) (T := TX7) (N := 5) hx hb hts inX7 hown hK hP 0 rfl rfl 4 (by decide) fl25 (fun _ h9 => h9) rfl dX7_add_27 ?_
    refine lv_iload_n hx hb dX7_add_30 rfl (lv_at hl 2 rfl) ?_
    refine va_zast hx hb hK hP hD hS 2 1 rfl rfl hi_6 dX7_add_31 (fun H locs hP hD hS => ?_)
    have hP : va_P E.1 vwCl [(h0, .inr (7, [.ref s1, .ref s2, .ref s3, .ref s4, .int sz_])), (s1, .inl (E.2.1 0, 12, .inl f_7)), (s2, .inl (E.2.1 1, 12, .inl (upd r2 sz_.toNatClampNeg (vp_nar .boolean ab)))), (s3, .inl (E.2.1 0, 12, .inl r3)), (s4, .inl (E.2.1 0, 12, .inl r4))] H := hP
    have hD : va_D A [(h0, .inr (7, [.ref s1, .ref s2, .ref s3, .ref s4, .int sz_])), (s1, .inl (E.2.1 0, 12, .inl f_7)), (s2, .inl (E.2.1 1, 12, .inl (upd r2 sz_.toNatClampNeg (vp_nar .boolean ab)))), (s3, .inl (E.2.1 0, 12, .inl r3)), (s4, .inl (E.2.1 0, 12, .inl r4))] := hD
    obtain ⟨f_8, ef_8⟩ : ∃ g : Nat → Int32, g = upd r2 sz_.toNatClampNeg (vp_nar .boolean ab) := ⟨_, rfl⟩
    rw [← ef_8] at hP hD
    refine lv_aload_n hx hb dX7_add_32 rfl (lv_at hl 0 rfl) ?_
    refine va_get (D := E.1) (ci := 7) (v := .ref s3) (C := RX7) (T := TX7) (N := 5) hx hb hts inX7 hown hK hP 0 rfl rfl 2 (by decide) fl19 (fun _ h9 => h9) rfl dX7_add_33 ?_
    refine lv_aload_n hx hb dX7_add_36 rfl (lv_at hl 0 rfl) ?_
    refine va_get (D := E.1) (ci := 7) (v := .int sz_) (C := RX7) (T := TX7) (N := 5) hx hb hts inX7 hown hK hP 0 rfl rfl 4 (by decide) fl25 (fun _ h9 => h9) rfl dX7_add_37 ?_
    refine lv_iload_n hx hb dX7_add_40 rfl (lv_at hl 3 rfl) ?_
    refine va_iast hx hb hK hP hD hS 3 0 rfl rfl hi_6 dX7_add_41 (fun H locs hP hD hS => ?_)
    have hP : va_P E.1 vwCl [(h0, .inr (7, [.ref s1, .ref s2, .ref s3, .ref s4, .int sz_])), (s1, .inl (E.2.1 0, 12, .inl f_7)), (s2, .inl (E.2.1 1, 12, .inl f_8)), (s3, .inl (E.2.1 0, 12, .inl (upd r3 sz_.toNatClampNeg bo))), (s4, .inl (E.2.1 0, 12, .inl r4))] H := hP
    have hD : va_D A [(h0, .inr (7, [.ref s1, .ref s2, .ref s3, .ref s4, .int sz_])), (s1, .inl (E.2.1 0, 12, .inl f_7)), (s2, .inl (E.2.1 1, 12, .inl f_8)), (s3, .inl (E.2.1 0, 12, .inl (upd r3 sz_.toNatClampNeg bo))), (s4, .inl (E.2.1 0, 12, .inl r4))] := hD
    obtain ⟨f_9, ef_9⟩ : ∃ g : Nat → Int32, g = upd r3 sz_.toNatClampNeg bo := ⟨_, rfl⟩
    rw [← ef_9] at hP hD
    refine lv_aload_n hx hb dX7_add_42 rfl (lv_at hl 0 rfl) ?_
    refine va_get (D := E.1) (ci := 7) (v := .ref s4) (C := RX7) (T := TX7) (N := 5) hx hb hts inX7 hown hK hP 0 rfl rfl 3 (by decide) fl22 (fun _ h9 => h9) rfl dX7_add_43 ?_
    refine lv_aload_n hx hb dX7_add_46 rfl (lv_at hl 0 rfl) ?_
    refine va_get (D := E.1) (ci := 7) (v := .int sz_) (C := RX7) (T := TX7) (N := 5) hx hb hts inX7 hown hK hP 0 rfl rfl 4 (by decide) fl25 (fun _ h9 => h9) rfl dX7_add_47 ?_
    refine lv_iload hx hb dX7_add_50 (lv_at hl 4 rfl) ?_
    refine va_iast hx hb hK hP hD hS 4 0 rfl rfl hi_6 dX7_add_52 (fun H locs hP hD hS => ?_)
    have hP : va_P E.1 vwCl [(h0, .inr (7, [.ref s1, .ref s2, .ref s3, .ref s4, .int sz_])), (s1, .inl (E.2.1 0, 12, .inl f_7)), (s2, .inl (E.2.1 1, 12, .inl f_8)), (s3, .inl (E.2.1 0, 12, .inl f_9)), (s4, .inl (E.2.1 0, 12, .inl (upd r4 sz_.toNatClampNeg ac)))] H := hP
    have hD : va_D A [(h0, .inr (7, [.ref s1, .ref s2, .ref s3, .ref s4, .int sz_])), (s1, .inl (E.2.1 0, 12, .inl f_7)), (s2, .inl (E.2.1 1, 12, .inl f_8)), (s3, .inl (E.2.1 0, 12, .inl f_9)), (s4, .inl (E.2.1 0, 12, .inl (upd r4 sz_.toNatClampNeg ac)))] := hD
    obtain ⟨f_10, ef_10⟩ : ∃ g : Nat → Int32, g = upd r4 sz_.toNatClampNeg ac := ⟨_, rfl⟩
    rw [← ef_10] at hP hD
    refine lv_aload_n hx hb dX7_add_53 rfl (lv_at hl 0 rfl) ?_
    refine lv_dup hx hb dX7_add_54 rfl ?_
    refine va_get (D := E.1) (ci := 7) (v := .int sz_) (C := RX7) (T := TX7) (N := 5) hx hb hts inX7 hown hK hP 0 rfl rfl 4 (by decide) fl25 (fun _ h9 => h9) rfl dX7_add_55 ?_
    refine lv_iconst (v := 1) hx hb dX7_add_58 (by decide) ?_
    refine lv_iadd hx hb dX7_add_59 ?_
    refine lv_topi (fun x_11 ex_11 => ?_)
    refine va_put (D := E.1) (ci := 7) (v := .int x_11) (ty := .int) (C := RX7) (T := TX7) (N := 5) hx hb hts inX7 tyX7 tyX7_ok nmX7 hown hK hP hD hS 0 rfl rfl 4 (by decide) fl25 (fun _ h9 => h9) rfl (by decide +kernel) rfl rfl (Nat.le_of_ble_eq_true rfl) dX7_add_60 (fun H locs hP hD hS => ?_)
    have hP : va_P E.1 vwCl [(h0, .inr (7, [.ref s1, .ref s2, .ref s3, .ref s4, .int x_11])), (s1, .inl (E.2.1 0, 12, .inl f_7)), (s2, .inl (E.2.1 1, 12, .inl f_8)), (s3, .inl (E.2.1 0, 12, .inl f_9)), (s4, .inl (E.2.1 0, 12, .inl f_10))] H := hP
    have hD : va_D A [(h0, .inr (7, [.ref s1, .ref s2, .ref s3, .ref s4, .int x_11])), (s1, .inl (E.2.1 0, 12, .inl f_7)), (s2, .inl (E.2.1 1, 12, .inl f_8)), (s3, .inl (E.2.1 0, 12, .inl f_9)), (s4, .inl (E.2.1 0, 12, .inl f_10))] := hD
    have hP9 := hP.sub (ws' := [(h0, .inr (7, [.ref s1, .ref s2, .ref s3, .ref s4, .int x_11])), (s1, .inl (E.2.1 0, 12, .inl f_7)), (s2, .inl (E.2.1 1, 12, .inl f_8)), (s3, .inl (E.2.1 0, 12, .inl f_9)), (s4, .inl (E.2.1 0, 12, .inl f_10))]) [0, 1, 2, 3, 4] rfl
    have hD9 := hD.sub (ws' := [(h0, .inr (7, [.ref s1, .ref s2, .ref s3, .ref s4, .int x_11])), (s1, .inl (E.2.1 0, 12, .inl f_7)), (s2, .inl (E.2.1 1, 12, .inl f_8)), (s3, .inl (E.2.1 0, 12, .inl f_9)), (s4, .inl (E.2.1 0, 12, .inl f_10))]) [0, 1, 2, 3, 4] (by decide) rfl
    exact W.vret hx hb hr (fun t ht hW => ⟨⟨(x_11, f_7, f_8, f_9, f_10), rfl, trivial, by rw [ht]; exact hP9, hD9⟩, hS.F ht⟩) hS.2.2 dX7_add_63
set_option maxHeartbeats 4000000 in
set_option maxRecDepth 100000 in
theorem c_X6_readRule (l : Launch) (E : vE) (h0 : Nat) (tk : Nat) (tp : Nat) (by_ : Nat) (fk : Int32) (fq : Int32) (kd : Int32) (sa : Int32) (nu : Int32) (be : Int32) (le : Int32) (f : Nat → Int32) (into : Nat) (s1 : Nat) (s2 : Nat) (s3 : Nat) (s4 : Nat) (sz_ : Int32) (r1 : Nat → Int32) (r2 : Nat → Int32) (r3 : Nat → Int32) (r4 : Nat → Int32) (sz : Nat) : Met l yX6_readRule wsX6_readRule ({ frames := 6, cells := 0, slots := 0, locals := 132 }) (pcW E [.ref h0, .ref into] sz [(h0, .inr (6, [.ref tk, .int fk, .int fq])), (tk, .inr (10, [.ref tp, .int kd, .int sa, .int nu, .int be])), (tp, .inr (9, [.ref by_, .int le])), (by_, .inl (E.2.1 0, 800, .inl f)), (into, .inr (7, [.ref s1, .ref s2, .ref s3, .ref s4, .int sz_])), (s1, .inl (E.2.1 0, 12, .inl r1)), (s2, .inl (E.2.1 1, 12, .inl r2)), (s3, .inl (E.2.1 0, 12, .inl r3)), (s4, .inl (E.2.1 0, 12, .inl r4))]) (va_Qi (fun (r : Int32) (u : Int32 × Int32 × Int32 × Int32 × Int32 × Int32 × Int32 × (Nat → Int32) × (Nat → Int32) × (Nat → Int32) × (Nat → Int32)) => match u with | (fk2, fq2, kd2, sa2, nu2, be2, sz2, r12, r22, r32, r42) => r = 0 ∨ r = 1) (fun (u : Int32 × Int32 × Int32 × Int32 × Int32 × Int32 × Int32 × (Nat → Int32) × (Nat → Int32) × (Nat → Int32) × (Nat → Int32)) (t : State) => match u with | (fk2, fq2, kd2, sa2, nu2, be2, sz2, r12, r22, r32, r42) => wB E (va_A [(h0, .inr (6, [.ref tk, .int fk, .int fq])), (tk, .inr (10, [.ref tp, .int kd, .int sa, .int nu, .int be])), (tp, .inr (9, [.ref by_, .int le])), (by_, .inl (E.2.1 0, 800, .inl f)), (into, .inr (7, [.ref s1, .ref s2, .ref s3, .ref s4, .int sz_])), (s1, .inl (E.2.1 0, 12, .inl r1)), (s2, .inl (E.2.1 1, 12, .inl r2)), (s3, .inl (E.2.1 0, 12, .inl r3)), (s4, .inl (E.2.1 0, 12, .inl r4))] sz) [(h0, .inr (6, [.ref tk, .int fk2, .int fq2])), (tk, .inr (10, [.ref tp, .int kd2, .int sa2, .int nu2, .int be2])), (tp, .inr (9, [.ref by_, .int le])), (by_, .inl (E.2.1 0, 800, .inl f)), (into, .inr (7, [.ref s1, .ref s2, .ref s3, .ref s4, .int sz2])), (s1, .inl (E.2.1 0, 12, .inl r12)), (s2, .inl (E.2.1 1, 12, .inl r22)), (s3, .inl (E.2.1 0, 12, .inl r32)), (s4, .inl (E.2.1 0, 12, .inl r42))] t) (va_A [(h0, .inr (6, [.ref tk, .int fk, .int fq])), (tk, .inr (10, [.ref tp, .int kd, .int sa, .int nu, .int be])), (tp, .inr (9, [.ref by_, .int le])), (by_, .inl (E.2.1 0, 800, .inl f)), (into, .inr (7, [.ref s1, .ref s2, .ref s3, .ref s4, .int sz_])), (s1, .inl (E.2.1 0, 12, .inl r1)), (s2, .inl (E.2.1 1, 12, .inl r2)), (s3, .inl (E.2.1 0, 12, .inl r3)), (s4, .inl (E.2.1 0, 12, .inl r4))] sz)) 0 0 (va_A [(h0, .inr (6, [.ref tk, .int fk, .int fq])), (tk, .inr (10, [.ref tp, .int kd, .int sa, .int nu, .int be])), (tp, .inr (9, [.ref by_, .int le])), (by_, .inl (E.2.1 0, 800, .inl f)), (into, .inr (7, [.ref s1, .ref s2, .ref s3, .ref s4, .int sz_])), (s1, .inl (E.2.1 0, 12, .inl r1)), (s2, .inl (E.2.1 1, 12, .inl r2)), (s3, .inl (E.2.1 0, 12, .inl r3)), (s4, .inl (E.2.1 0, 12, .inl r4))] sz) := by
  refine Met.ofW (cc := cX6_readRule) (maxL := 6) (ret := (some .boolean)) (by decide) rfl ?_
  intro p e s m args below meth c s₁ B hml hv
  obtain ⟨rfl, hsz, hP, hkn, hD0, hst⟩ := hv
  have hx := B.exec
  have hb := B.bytes
  have hr := B.returns
  have hts := atoms_spec (ws := wsX6_readRule) B.pre
  have hown : s.vm.findClass RX6 = some m.cls := findClass_of_methodNamed B.named
  have hlocks := B.notSynchronized
  subst hsz
  have hD := hD0.self (sz := s.heap.size)
  have hK := hkn.1
  have hAO := hkn.2.2.1
  generalize hAe : va_A [(h0, .inr (6, [.ref tk, .int fk, .int fq])), (tk, .inr (10, [.ref tp, .int kd, .int sa, .int nu, .int be])), (tp, .inr (9, [.ref by_, .int le])), (by_, .inl (E.2.1 0, 800, .inl f)), (into, .inr (7, [.ref s1, .ref s2, .ref s3, .ref s4, .int sz_])), (s1, .inl (E.2.1 0, 12, .inl r1)), (s2, .inl (E.2.1 1, 12, .inl r2)), (s3, .inl (E.2.1 0, 12, .inl r3)), (s4, .inl (E.2.1 0, 12, .inl r4))] s.heap.size = A at hD hst ⊢
  have hA : ∀ q : Nat, s.heap.size ≤ q → A q := fun q h => by rw [← hAe]; exact Or.inr h
  have hS : va_S A s.heap s.heap [] := va_S.rf
  have hP : va_P E.1 vwCl [(h0, .inr (6, [.ref tk, .int fk, .int fq])), (tk, .inr (10, [.ref tp, .int kd, .int sa, .int nu, .int be])), (tp, .inr (9, [.ref by_, .int le])), (by_, .inl (E.2.1 0, 800, .inl f)), (into, .inr (7, [.ref s1, .ref s2, .ref s3, .ref s4, .int sz_])), (s1, .inl (E.2.1 0, 12, .inl r1)), (s2, .inl (E.2.1 1, 12, .inl r2)), (s3, .inl (E.2.1 0, 12, .inl r3)), (s4, .inl (E.2.1 0, 12, .inl r4))] s.heap := hP
  have hl := lv_entry ([.ref h0, .ref into]) (n := 6) (Nat.le_of_ble_eq_true rfl)
  rw [lg_entry_eq]
  generalize (lg_sl ([.ref h0, .ref into]) ++ List.replicate (6 - (lg_sl ([.ref h0, .ref into])).length) Slot.unset).toArray = ls at hl ⊢
  have hl : lv_has ls 6 [(0, .ref h0), (1, .ref into)] := hl
  have fl23 := hts (.fieldLink RX6 23 "BoatsHome$Reader" "tokens" "LBoatsHome$Tokens;") (by first | exact List.mem_of_getElem? (i := 1) rfl | decide +kernel)
  have fl27 := hts (.fieldLink RX6 27 "BoatsHome$Rules" "size" "I") (by first | exact List.mem_of_getElem? (i := 2) rfl | decide +kernel)
  have inX6 : ∀ w ∈ u_ws RX6 TX6 3, w ∈ wsX6_readRule := by first | exact fun w h9 => (List.mem_cons_of_mem _ (List.mem_append_left _ (List.mem_append_left _ (List.mem_append_left _ (List.mem_append_right _ h9))))) | decide +kernel
  have inX7 : ∀ w ∈ u_ws RX7 TX7 5, w ∈ wsX6_readRule := by first | exact fun w h9 => (List.mem_cons_of_mem _ (List.mem_append_left _ (List.mem_append_left _ (List.mem_append_right _ h9)))) | decide +kernel
  refine lv_aload_n hx hb dX6_readRule_0 rfl (lv_at hl 0 rfl) ?_
  refine va_get (D := E.1) (ci := 6) (v := .ref tk) (C := RX6) (T := TX6) (N := 3) hx hb hts inX6 hown hK hP 0 rfl rfl 0 (by decide) fl23 (fun _ h9 => h9) rfl dX6_readRule_1 ?_
  refine va_ldcS hx hb hown (hkn.2.2.2 0 (by decide)) dX6_readRule_4 ?_
  have hPc := hP.sub (ws' := [(tk, .inr (10, [.ref tp, .int kd, .int sa, .int nu, .int be])), (tp, .inr (9, [.ref by_, .int le])), (by_, .inl (E.2.1 0, 800, .inl f))]) [1, 2, 3] rfl
  have hDc := hD.sub (ws' := [(tk, .inr (10, [.ref tp, .int kd, .int sa, .int nu, .int be])), (tp, .inr (9, [.ref by_, .int le])), (by_, .inl (E.2.1 0, 800, .inl f))]) [1, 2, 3] (by decide) rfl
  have hFc := va_free (wc := [(tk, .inr (10, [.ref tp, .int kd, .int sa, .int nu, .int be])), (tp, .inr (9, [.ref by_, .int le])), (by_, .inl (E.2.1 0, 800, .inl f))]) hD hS hA [1, 2, 3] rfl
  refine va_calli (va_runV (As := [.ref (E.2.2.1 0)]) (rest := []) ⟨hx, hb, hml, hown, hts⟩ (c_X10_spells l E tk tp by_ kd sa nu be le f 0 s.heap.size (by decide)) (cwV 1 hts gX6_readRule_X10_spells rfl rfl rfl hdV_X10_spells ⟨Nat.le_of_ble_eq_true rfl, Nat.le_of_ble_eq_true rfl⟩) ⟨pcW_blind, va_recv hK hPc (ci := 10) (q0 := 0) rfl rfl, (pcW_pre hPc hkn hDc hst hS hFc)⟩ rfl rfl hl.1 rfl (lv_room (Nat.le_of_ble_eq_true rfl)) dX6_readRule_6 ⟨Nat.le_of_ble_eq_true rfl, Nat.le_of_ble_eq_true rfl⟩) hS (fun q _ h => hFc q h) hFc (fun r_1 u t H1 locs ht hvm hw_2 hB hz1 hk1 hS => ?_)
  obtain ⟨hP1, hD1⟩ := hB
  rw [ht] at hP1
  try dsimp only at hw_2
  obtain ⟨hP, hD⟩ := va_join (wr := [(h0, .inr (6, [.ref tk, .int fk, .int fq])), (into, .inr (7, [.ref s1, .ref s2, .ref s3, .ref s4, .int sz_])), (s1, .inl (E.2.1 0, 12, .inl r1)), (s2, .inl (E.2.1 1, 12, .inl r2)), (s3, .inl (E.2.1 0, 12, .inl r3)), (s4, .inl (E.2.1 0, 12, .inl r4))]) (w1 := [(tk, .inr (10, [.ref tp, .int kd, .int sa, .int nu, .int be])), (tp, .inr (9, [.ref by_, .int le])), (by_, .inl (E.2.1 0, 800, .inl f))]) hP hD [1, 2, 3] [0, 4, 5, 6, 7, 8] rfl rfl (by decide) (by decide) hk1 hFc hP1 hD1
  generalize H1 = H at hP hS ⊢
  have hP : va_P E.1 vwCl [(h0, .inr (6, [.ref tk, .int fk, .int fq])), (into, .inr (7, [.ref s1, .ref s2, .ref s3, .ref s4, .int sz_])), (s1, .inl (E.2.1 0, 12, .inl r1)), (s2, .inl (E.2.1 1, 12, .inl r2)), (s3, .inl (E.2.1 0, 12, .inl r3)), (s4, .inl (E.2.1 0, 12, .inl r4)), (tk, .inr (10, [.ref tp, .int kd, .int sa, .int nu, .int be])), (tp, .inr (9, [.ref by_, .int le])), (by_, .inl (E.2.1 0, 800, .inl f))] H := hP
  have hD : va_D A [(h0, .inr (6, [.ref tk, .int fk, .int fq])), (into, .inr (7, [.ref s1, .ref s2, .ref s3, .ref s4, .int sz_])), (s1, .inl (E.2.1 0, 12, .inl r1)), (s2, .inl (E.2.1 1, 12, .inl r2)), (s3, .inl (E.2.1 0, 12, .inl r3)), (s4, .inl (E.2.1 0, 12, .inl r4)), (tk, .inr (10, [.ref tp, .int kd, .int sa, .int nu, .int be])), (tp, .inr (9, [.ref by_, .int le])), (by_, .inl (E.2.1 0, 800, .inl f))] := hD
  refine lv_if_ne (tgt := 18) hx hb dX6_readRule_9 (by decide) (fun c_3 => ?_) (fun c_3 => ?_)
  · refine lv_aload_n hx hb dX6_readRule_18 rfl (lv_at hl 1 rfl) ?_
    refine va_get (D := E.1) (ci := 7) (v := .int sz_) (C := RX7) (T := TX7) (N := 5) hx hb hts inX7 hown hK hP 1 rfl rfl 4 (by decide) fl27 (fun _ h9 => h9) rfl dX6_readRule_19 ?_
    refine lv_bipush (v := 12) hx hb dX6_readRule_22 (by decide) ?_
    refine lv_icmp_lt (tgt := 33) hx hb dX6_readRule_24 (by decide) (fun c_4 => ?_) (fun c_4 => ?_)
    · refine lv_aload_n hx hb dX6_readRule_33 rfl (lv_at hl 0 rfl) ?_
      refine va_get (D := E.1) (ci := 6) (v := .ref tk) (C := RX6) (T := TX6) (N := 3) hx hb hts inX6 hown hK hP 0 rfl rfl 0 (by decide) fl23 (fun _ h9 => h9) rfl dX6_readRule_34 ?_
      have hPc := hP.sub (ws' := [(tk, .inr (10, [.ref tp, .int kd, .int sa, .int nu, .int be])), (tp, .inr (9, [.ref by_, .int le])), (by_, .inl (E.2.1 0, 800, .inl f))]) [6, 7, 8] rfl
      have hDc := hD.sub (ws' := [(tk, .inr (10, [.ref tp, .int kd, .int sa, .int nu, .int be])), (tp, .inr (9, [.ref by_, .int le])), (by_, .inl (E.2.1 0, 800, .inl f))]) [6, 7, 8] (by decide) rfl
      have hFc := va_free (wc := [(tk, .inr (10, [.ref tp, .int kd, .int sa, .int nu, .int be])), (tp, .inr (9, [.ref by_, .int le])), (by_, .inl (E.2.1 0, 800, .inl f))]) hD hS hA [6, 7, 8] rfl
      refine va_callv (va_runV (As := []) (rest := []) ⟨hx, hb, hml, hown, hts⟩ (c_X10_advance l E tk tp by_ kd sa nu be le f H.size ) (cwV 0 hts gX6_readRule_X10_advance rfl rfl rfl hdV_X10_advance ⟨Nat.le_of_ble_eq_true rfl, Nat.le_of_ble_eq_true rfl⟩) ⟨pcW_blind, va_recv hK hPc (ci := 10) (q0 := 0) rfl rfl, (pcW_pre hPc hkn hDc hst hS hFc)⟩ rfl rfl hl.1 rfl (lv_room (Nat.le_of_ble_eq_true rfl)) dX6_readRule_37 ⟨Nat.le_of_ble_eq_true rfl, Nat.le_of_ble_eq_true rfl⟩) hS (fun q _ h => hFc q h) hFc (fun u t H1 locs ht hvm hw_6 hB hz1 hk1 hS => ?_)
      obtain ⟨u_7, u_8, u_9, u_10⟩ := u
      obtain ⟨hP1, hD1⟩ := hB
      rw [ht] at hP1
      try dsimp only at hw_6
      obtain ⟨hP, hD⟩ := va_join (wr := [(h0, .inr (6, [.ref tk, .int fk, .int fq])), (into, .inr (7, [.ref s1, .ref s2, .ref s3, .ref s4, .int sz_])), (s1, .inl (E.2.1 0, 12, .inl r1)), (s2, .inl (E.2.1 1, 12, .inl r2)), (s3, .inl (E.2.1 0, 12, .inl r3)), (s4, .inl (E.2.1 0, 12, .inl r4))]) (w1 := [(tk, .inr (10, [.ref tp, .int u_7, .int u_8, .int u_9, .int u_10])), (tp, .inr (9, [.ref by_, .int le])), (by_, .inl (E.2.1 0, 800, .inl f))]) hP hD [6, 7, 8] [0, 1, 2, 3, 4, 5] rfl rfl (by decide) (by decide) hk1 hFc hP1 hD1
      generalize H1 = H at hP hS ⊢
      have hP : va_P E.1 vwCl [(h0, .inr (6, [.ref tk, .int fk, .int fq])), (into, .inr (7, [.ref s1, .ref s2, .ref s3, .ref s4, .int sz_])), (s1, .inl (E.2.1 0, 12, .inl r1)), (s2, .inl (E.2.1 1, 12, .inl r2)), (s3, .inl (E.2.1 0, 12, .inl r3)), (s4, .inl (E.2.1 0, 12, .inl r4)), (tk, .inr (10, [.ref tp, .int u_7, .int u_8, .int u_9, .int u_10])), (tp, .inr (9, [.ref by_, .int le])), (by_, .inl (E.2.1 0, 800, .inl f))] H := hP
      have hD : va_D A [(h0, .inr (6, [.ref tk, .int fk, .int fq])), (into, .inr (7, [.ref s1, .ref s2, .ref s3, .ref s4, .int sz_])), (s1, .inl (E.2.1 0, 12, .inl r1)), (s2, .inl (E.2.1 1, 12, .inl r2)), (s3, .inl (E.2.1 0, 12, .inl r3)), (s4, .inl (E.2.1 0, 12, .inl r4)), (tk, .inr (10, [.ref tp, .int u_7, .int u_8, .int u_9, .int u_10])), (tp, .inr (9, [.ref by_, .int le])), (by_, .inl (E.2.1 0, 800, .inl f))] := hD
      refine lv_aload_n hx hb dX6_readRule_40 rfl (lv_at hl 0 rfl) ?_
      refine va_ldcS hx hb hown (hkn.2.2.2 1 (by decide)) dX6_readRule_41 ?_
      refine va_ldcS hx hb hown (hkn.2.2.2 2 (by decide)) dX6_readRule_43 ?_
      refine va_ldcS hx hb hown (hkn.2.2.2 3 (by decide)) dX6_readRule_45 ?_
      refine va_ldcS hx hb hown (hkn.2.2.2 4 (by decide)) dX6_readRule_47 ?_
      have hPc := hP.sub (ws' := [(h0, .inr (6, [.ref tk, .int fk, .int fq])), (tk, .inr (10, [.ref tp, .int u_7, .int u_8, .int u_9, .int u_10])), (tp, .inr (9, [.ref by_, .int le])), (by_, .inl (E.2.1 0, 800, .inl f))]) [0, 6, 7, 8] rfl
      have hDc := hD.sub (ws' := [(h0, .inr (6, [.ref tk, .int fk, .int fq])), (tk, .inr (10, [.ref tp, .int u_7, .int u_8, .int u_9, .int u_10])), (tp, .inr (9, [.ref by_, .int le])), (by_, .inl (E.2.1 0, 800, .inl f))]) [0, 6, 7, 8] (by decide) rfl
      have hFc := va_free (wc := [(h0, .inr (6, [.ref tk, .int fk, .int fq])), (tk, .inr (10, [.ref tp, .int u_7, .int u_8, .int u_9, .int u_10])), (tp, .inr (9, [.ref by_, .int le])), (by_, .inl (E.2.1 0, 800, .inl f))]) hD hS hA [0, 6, 7, 8] rfl
      refine va_calli (va_runV (As := [.ref (E.2.2.1 1), .ref (E.2.2.1 2), .ref (E.2.2.1 3), .ref (E.2.2.1 4)]) (rest := []) ⟨hx, hb, hml, hown, hts⟩ (c_X6_takeOneOf l E h0 tk tp by_ fk fq u_7 u_8 u_9 u_10 le f 1 2 3 4 H.size (by decide) (by decide) (by decide) (by decide)) (cwV 4 hts gX6_readRule_X6_takeOneOf rfl rfl rfl hdV_X6_takeOneOf ⟨Nat.le_of_ble_eq_true rfl, Nat.le_of_ble_eq_true rfl⟩) ⟨pcW_blind, va_recv hK hPc (ci := 6) (q0 := 0) rfl rfl, (pcW_pre hPc hkn hDc hst hS hFc)⟩ rfl rfl hl.1 rfl (lv_room (Nat.le_of_ble_eq_true rfl)) dX6_readRule_49 ⟨Nat.le_of_ble_eq_true rfl, Nat.le_of_ble_eq_true rfl⟩) hS (fun q _ h => hFc q h) hFc (fun r_11 u t H1 locs ht hvm hw_12 hB hz1 hk1 hS => ?_)
      obtain ⟨u_13, u_14, u_15, u_16, u_17, u_18⟩ := u
      obtain ⟨hP1, hD1⟩ := hB
      rw [ht] at hP1
      try dsimp only at hw_12
      obtain ⟨hP, hD⟩ := va_join (wr := [(into, .inr (7, [.ref s1, .ref s2, .ref s3, .ref s4, .int sz_])), (s1, .inl (E.2.1 0, 12, .inl r1)), (s2, .inl (E.2.1 1, 12, .inl r2)), (s3, .inl (E.2.1 0, 12, .inl r3)), (s4, .inl (E.2.1 0, 12, .inl r4))]) (w1 := [(h0, .inr (6, [.ref tk, .int u_13, .int u_14])), (tk, .inr (10, [.ref tp, .int u_15, .int u_16, .int u_17, .int u_18])), (tp, .inr (9, [.ref by_, .int le])), (by_, .inl (E.2.1 0, 800, .inl f))]) hP hD [0, 6, 7, 8] [1, 2, 3, 4, 5] rfl rfl (by decide) (by decide) hk1 hFc hP1 hD1
      generalize H1 = H at hP hS ⊢
      have hP : va_P E.1 vwCl [(into, .inr (7, [.ref s1, .ref s2, .ref s3, .ref s4, .int sz_])), (s1, .inl (E.2.1 0, 12, .inl r1)), (s2, .inl (E.2.1 1, 12, .inl r2)), (s3, .inl (E.2.1 0, 12, .inl r3)), (s4, .inl (E.2.1 0, 12, .inl r4)), (h0, .inr (6, [.ref tk, .int u_13, .int u_14])), (tk, .inr (10, [.ref tp, .int u_15, .int u_16, .int u_17, .int u_18])), (tp, .inr (9, [.ref by_, .int le])), (by_, .inl (E.2.1 0, 800, .inl f))] H := hP
      have hD : va_D A [(into, .inr (7, [.ref s1, .ref s2, .ref s3, .ref s4, .int sz_])), (s1, .inl (E.2.1 0, 12, .inl r1)), (s2, .inl (E.2.1 1, 12, .inl r2)), (s3, .inl (E.2.1 0, 12, .inl r3)), (s4, .inl (E.2.1 0, 12, .inl r4)), (h0, .inr (6, [.ref tk, .int u_13, .int u_14])), (tk, .inr (10, [.ref tp, .int u_15, .int u_16, .int u_17, .int u_18])), (tp, .inr (9, [.ref by_, .int le])), (by_, .inl (E.2.1 0, 800, .inl f))] := hD
      refine lv_istore_n (lv' := [(2, .int r_11), (0, .ref h0), (1, .ref into)]) hx hb dX6_readRule_52 rfl hl (by decide) rfl (fun ls hl => ?_)
      refine lv_iload_n hx hb dX6_readRule_53 rfl (lv_at hl 0 rfl) ?_
      refine lv_iconst (v := (-1)) hx hb dX6_readRule_54 (by decide) ?_
      refine lv_icmp_ne (tgt := 62) hx hb dX6_readRule_55 (by decide) (fun c_19 => ?_) (fun c_19 => ?_)
      · refine lv_aload_n hx hb dX6_readRule_62 rfl (lv_at hl 1 rfl) ?_
        refine va_ldcS hx hb hown (hkn.2.2.2 5 (by decide)) dX6_readRule_63 ?_
        refine va_ldcS hx hb hown (hkn.2.2.2 6 (by decide)) dX6_readRule_65 ?_
        refine va_ldcS hx hb hown (hkn.2.2.2 7 (by decide)) dX6_readRule_67 ?_
        refine va_ldcS hx hb hown (hkn.2.2.2 7 (by decide)) dX6_readRule_69 ?_
        have hPc := hP.sub (ws' := [(h0, .inr (6, [.ref tk, .int u_13, .int u_14])), (tk, .inr (10, [.ref tp, .int u_15, .int u_16, .int u_17, .int u_18])), (tp, .inr (9, [.ref by_, .int le])), (by_, .inl (E.2.1 0, 800, .inl f))]) [5, 6, 7, 8] rfl
        have hDc := hD.sub (ws' := [(h0, .inr (6, [.ref tk, .int u_13, .int u_14])), (tk, .inr (10, [.ref tp, .int u_15, .int u_16, .int u_17, .int u_18])), (tp, .inr (9, [.ref by_, .int le])), (by_, .inl (E.2.1 0, 800, .inl f))]) [5, 6, 7, 8] (by decide) rfl
        have hFc := va_free (wc := [(h0, .inr (6, [.ref tk, .int u_13, .int u_14])), (tk, .inr (10, [.ref tp, .int u_15, .int u_16, .int u_17, .int u_18])), (tp, .inr (9, [.ref by_, .int le])), (by_, .inl (E.2.1 0, 800, .inl f))]) hD hS hA [5, 6, 7, 8] rfl
        refine va_calli (va_runV (As := [.ref (E.2.2.1 5), .ref (E.2.2.1 6), .ref (E.2.2.1 7), .ref (E.2.2.1 7)]) (rest := []) ⟨hx, hb, hml, hown, hts⟩ (c_X6_takeOneOf l E h0 tk tp by_ u_13 u_14 u_15 u_16 u_17 u_18 le f 5 6 7 7 H.size (by decide) (by decide) (by decide) (by decide)) (cwV 4 hts gX6_readRule_X6_takeOneOf rfl rfl rfl hdV_X6_takeOneOf ⟨Nat.le_of_ble_eq_true rfl, Nat.le_of_ble_eq_true rfl⟩) ⟨pcW_blind, va_recv hK hPc (ci := 6) (q0 := 0) rfl rfl, (pcW_pre hPc hkn hDc hst hS hFc)⟩ rfl rfl hl.1 rfl (lv_room (Nat.le_of_ble_eq_true rfl)) dX6_readRule_71 ⟨Nat.le_of_ble_eq_true rfl, Nat.le_of_ble_eq_true rfl⟩) hS (fun q _ h => hFc q h) hFc (fun r_20 u t H1 locs ht hvm hw_21 hB hz1 hk1 hS => ?_)
        obtain ⟨u_22, u_23, u_24, u_25, u_26, u_27⟩ := u
        obtain ⟨hP1, hD1⟩ := hB
        rw [ht] at hP1
        try dsimp only at hw_21
        obtain ⟨hP, hD⟩ := va_join (wr := [(into, .inr (7, [.ref s1, .ref s2, .ref s3, .ref s4, .int sz_])), (s1, .inl (E.2.1 0, 12, .inl r1)), (s2, .inl (E.2.1 1, 12, .inl r2)), (s3, .inl (E.2.1 0, 12, .inl r3)), (s4, .inl (E.2.1 0, 12, .inl r4))]) (w1 := [(h0, .inr (6, [.ref tk, .int u_22, .int u_23])), (tk, .inr (10, [.ref tp, .int u_24, .int u_25, .int u_26, .int u_27])), (tp, .inr (9, [.ref by_, .int le])), (by_, .inl (E.2.1 0, 800, .inl f))]) hP hD [5, 6, 7, 8] [0, 1, 2, 3, 4] rfl rfl (by decide) (by decide) hk1 hFc hP1 hD1
        generalize H1 = H at hP hS ⊢
        have hP : va_P E.1 vwCl [(into, .inr (7, [.ref s1, .ref s2, .ref s3, .ref s4, .int sz_])), (s1, .inl (E.2.1 0, 12, .inl r1)), (s2, .inl (E.2.1 1, 12, .inl r2)), (s3, .inl (E.2.1 0, 12, .inl r3)), (s4, .inl (E.2.1 0, 12, .inl r4)), (h0, .inr (6, [.ref tk, .int u_22, .int u_23])), (tk, .inr (10, [.ref tp, .int u_24, .int u_25, .int u_26, .int u_27])), (tp, .inr (9, [.ref by_, .int le])), (by_, .inl (E.2.1 0, 800, .inl f))] H := hP
        have hD : va_D A [(into, .inr (7, [.ref s1, .ref s2, .ref s3, .ref s4, .int sz_])), (s1, .inl (E.2.1 0, 12, .inl r1)), (s2, .inl (E.2.1 1, 12, .inl r2)), (s3, .inl (E.2.1 0, 12, .inl r3)), (s4, .inl (E.2.1 0, 12, .inl r4)), (h0, .inr (6, [.ref tk, .int u_22, .int u_23])), (tk, .inr (10, [.ref tp, .int u_24, .int u_25, .int u_26, .int u_27])), (tp, .inr (9, [.ref by_, .int le])), (by_, .inl (E.2.1 0, 800, .inl f))] := hD
        refine lv_istore_n (lv' := [(3, .int r_20), (2, .int r_11), (0, .ref h0), (1, .ref into)]) hx hb dX6_readRule_74 rfl hl (by decide) rfl (fun ls hl => ?_)
        refine lv_iload_n hx hb dX6_readRule_75 rfl (lv_at hl 0 rfl) ?_
        refine lv_iconst (v := (-1)) hx hb dX6_readRule_76 (by decide) ?_
        refine lv_icmp_ne (tgt := 84) hx hb dX6_readRule_77 (by decide) (fun c_28 => ?_) (fun c_28 => ?_)
        · refine lv_aload_n hx hb dX6_readRule_84 rfl (lv_at hl 2 rfl) ?_
          refine lv_sipush (v := 9999) hx hb dX6_readRule_85 (by decide) ?_
          have hPc := hP.sub (ws' := [(h0, .inr (6, [.ref tk, .int u_22, .int u_23])), (tk, .inr (10, [.ref tp, .int u_24, .int u_25, .int u_26, .int u_27])), (tp, .inr (9, [.ref by_, .int le])), (by_, .inl (E.2.1 0, 800, .inl f))]) [5, 6, 7, 8] rfl
          have hDc := hD.sub (ws' := [(h0, .inr (6, [.ref tk, .int u_22, .int u_23])), (tk, .inr (10, [.ref tp, .int u_24, .int u_25, .int u_26, .int u_27])), (tp, .inr (9, [.ref by_, .int le])), (by_, .inl (E.2.1 0, 800, .inl f))]) [5, 6, 7, 8] (by decide) rfl
          have hFc := va_free (wc := [(h0, .inr (6, [.ref tk, .int u_22, .int u_23])), (tk, .inr (10, [.ref tp, .int u_24, .int u_25, .int u_26, .int u_27])), (tp, .inr (9, [.ref by_, .int le])), (by_, .inl (E.2.1 0, 800, .inl f))]) hD hS hA [5, 6, 7, 8] rfl
          refine va_calli (va_runV (As := [.int 9999]) (rest := []) ⟨hx, hb, hml, hown, hts⟩ (c_X6_takeNumber l E h0 tk tp by_ u_22 u_23 u_24 u_25 u_26 u_27 le f 9999 H.size ) (cwV 1 hts gX6_readRule_X6_takeNumber rfl rfl rfl hdV_X6_takeNumber ⟨Nat.le_of_ble_eq_true rfl, Nat.le_of_ble_eq_true rfl⟩) ⟨pcW_blind, va_recv hK hPc (ci := 6) (q0 := 0) rfl rfl, (pcW_pre hPc hkn hDc hst hS hFc)⟩ rfl rfl hl.1 rfl (lv_room (Nat.le_of_ble_eq_true rfl)) dX6_readRule_88 ⟨Nat.le_of_ble_eq_true rfl, Nat.le_of_ble_eq_true rfl⟩) hS (fun q _ h => hFc q h) hFc (fun r_29 u t H1 locs ht hvm hw_30 hB hz1 hk1 hS => ?_)
          obtain ⟨u_31, u_32, u_33, u_34, u_35, u_36⟩ := u
          obtain ⟨hP1, hD1⟩ := hB
          rw [ht] at hP1
          try dsimp only at hw_30
          obtain ⟨hP, hD⟩ := va_join (wr := [(into, .inr (7, [.ref s1, .ref s2, .ref s3, .ref s4, .int sz_])), (s1, .inl (E.2.1 0, 12, .inl r1)), (s2, .inl (E.2.1 1, 12, .inl r2)), (s3, .inl (E.2.1 0, 12, .inl r3)), (s4, .inl (E.2.1 0, 12, .inl r4))]) (w1 := [(h0, .inr (6, [.ref tk, .int u_31, .int u_32])), (tk, .inr (10, [.ref tp, .int u_33, .int u_34, .int u_35, .int u_36])), (tp, .inr (9, [.ref by_, .int le])), (by_, .inl (E.2.1 0, 800, .inl f))]) hP hD [5, 6, 7, 8] [0, 1, 2, 3, 4] rfl rfl (by decide) (by decide) hk1 hFc hP1 hD1
          generalize H1 = H at hP hS ⊢
          have hP : va_P E.1 vwCl [(into, .inr (7, [.ref s1, .ref s2, .ref s3, .ref s4, .int sz_])), (s1, .inl (E.2.1 0, 12, .inl r1)), (s2, .inl (E.2.1 1, 12, .inl r2)), (s3, .inl (E.2.1 0, 12, .inl r3)), (s4, .inl (E.2.1 0, 12, .inl r4)), (h0, .inr (6, [.ref tk, .int u_31, .int u_32])), (tk, .inr (10, [.ref tp, .int u_33, .int u_34, .int u_35, .int u_36])), (tp, .inr (9, [.ref by_, .int le])), (by_, .inl (E.2.1 0, 800, .inl f))] H := hP
          have hD : va_D A [(into, .inr (7, [.ref s1, .ref s2, .ref s3, .ref s4, .int sz_])), (s1, .inl (E.2.1 0, 12, .inl r1)), (s2, .inl (E.2.1 1, 12, .inl r2)), (s3, .inl (E.2.1 0, 12, .inl r3)), (s4, .inl (E.2.1 0, 12, .inl r4)), (h0, .inr (6, [.ref tk, .int u_31, .int u_32])), (tk, .inr (10, [.ref tp, .int u_33, .int u_34, .int u_35, .int u_36])), (tp, .inr (9, [.ref by_, .int le])), (by_, .inl (E.2.1 0, 800, .inl f))] := hD
          refine lv_istore (lv' := [(4, .int r_29), (3, .int r_20), (2, .int r_11), (0, .ref h0), (1, .ref into)]) hx hb dX6_readRule_91 hl (by decide) rfl (fun ls hl => ?_)
          refine lv_iload hx hb dX6_readRule_93 (lv_at hl 0 rfl) ?_
          refine lv_iconst (v := (-1)) hx hb dX6_readRule_95 (by decide) ?_
          refine lv_icmp_eq (tgt := 108) hx hb dX6_readRule_96 (by decide) (fun c_37 => ?_) (fun c_37 => ?_)
          · refine lv_iconst (v := 0) hx hb dX6_readRule_108 (by decide) ?_
            have hP9 := hP.sub (ws' := [(h0, .inr (6, [.ref tk, .int u_31, .int u_32])), (tk, .inr (10, [.ref tp, .int u_33, .int u_34, .int u_35, .int u_36])), (tp, .inr (9, [.ref by_, .int le])), (by_, .inl (E.2.1 0, 800, .inl f)), (into, .inr (7, [.ref s1, .ref s2, .ref s3, .ref s4, .int sz_])), (s1, .inl (E.2.1 0, 12, .inl r1)), (s2, .inl (E.2.1 1, 12, .inl r2)), (s3, .inl (E.2.1 0, 12, .inl r3)), (s4, .inl (E.2.1 0, 12, .inl r4))]) [5, 6, 7, 8, 0, 1, 2, 3, 4] rfl
            have hD9 := hD.sub (ws' := [(h0, .inr (6, [.ref tk, .int u_31, .int u_32])), (tk, .inr (10, [.ref tp, .int u_33, .int u_34, .int u_35, .int u_36])), (tp, .inr (9, [.ref by_, .int le])), (by_, .inl (E.2.1 0, 800, .inl f)), (into, .inr (7, [.ref s1, .ref s2, .ref s3, .ref s4, .int sz_])), (s1, .inl (E.2.1 0, 12, .inl r1)), (s2, .inl (E.2.1 1, 12, .inl r2)), (s3, .inl (E.2.1 0, 12, .inl r3)), (s4, .inl (E.2.1 0, 12, .inl r4))]) [5, 6, 7, 8, 0, 1, 2, 3, 4] (by decide) rfl
            exact W.zret (v := 0) hx hb hr (by decide) (fun t ht hW => ⟨⟨0, (u_31, u_32, u_33, u_34, u_35, u_36, sz_, r1, r2, r3, r4), rfl, Or.inl rfl, by rw [ht]; exact hP9, hD9⟩, hS.F ht⟩) hS.2.2 dX6_readRule_109
          · refine lv_aload_n hx hb dX6_readRule_99 rfl (lv_at hl 3 rfl) ?_
            refine va_ldcS hx hb hown (hkn.2.2.2 8 (by decide)) dX6_readRule_100 ?_
            have hPc := hP.sub (ws' := [(h0, .inr (6, [.ref tk, .int u_31, .int u_32])), (tk, .inr (10, [.ref tp, .int u_33, .int u_34, .int u_35, .int u_36])), (tp, .inr (9, [.ref by_, .int le])), (by_, .inl (E.2.1 0, 800, .inl f))]) [5, 6, 7, 8] rfl
            have hDc := hD.sub (ws' := [(h0, .inr (6, [.ref tk, .int u_31, .int u_32])), (tk, .inr (10, [.ref tp, .int u_33, .int u_34, .int u_35, .int u_36])), (tp, .inr (9, [.ref by_, .int le])), (by_, .inl (E.2.1 0, 800, .inl f))]) [5, 6, 7, 8] (by decide) rfl
            have hFc := va_free (wc := [(h0, .inr (6, [.ref tk, .int u_31, .int u_32])), (tk, .inr (10, [.ref tp, .int u_33, .int u_34, .int u_35, .int u_36])), (tp, .inr (9, [.ref by_, .int le])), (by_, .inl (E.2.1 0, 800, .inl f))]) hD hS hA [5, 6, 7, 8] rfl
            refine va_calli (va_runV (As := [.ref (E.2.2.1 8)]) (rest := []) ⟨hx, hb, hml, hown, hts⟩ (c_X6_takeWord l E h0 tk tp by_ u_31 u_32 u_33 u_34 u_35 u_36 le f 8 H.size (by decide)) (cwV 1 hts gX6_readRule_X6_takeWord rfl rfl rfl hdV_X6_takeWord ⟨Nat.le_of_ble_eq_true rfl, Nat.le_of_ble_eq_true rfl⟩) ⟨pcW_blind, va_recv hK hPc (ci := 6) (q0 := 0) rfl rfl, (pcW_pre hPc hkn hDc hst hS hFc)⟩ rfl rfl hl.1 rfl (lv_room (Nat.le_of_ble_eq_true rfl)) dX6_readRule_102 ⟨Nat.le_of_ble_eq_true rfl, Nat.le_of_ble_eq_true rfl⟩) hS (fun q _ h => hFc q h) hFc (fun r_38 u t H1 locs ht hvm hw_39 hB hz1 hk1 hS => ?_)
            obtain ⟨u_40, u_41, u_42, u_43, u_44, u_45⟩ := u
            obtain ⟨hP1, hD1⟩ := hB
            rw [ht] at hP1
            try dsimp only at hw_39
            obtain ⟨hP, hD⟩ := va_join (wr := [(into, .inr (7, [.ref s1, .ref s2, .ref s3, .ref s4, .int sz_])), (s1, .inl (E.2.1 0, 12, .inl r1)), (s2, .inl (E.2.1 1, 12, .inl r2)), (s3, .inl (E.2.1 0, 12, .inl r3)), (s4, .inl (E.2.1 0, 12, .inl r4))]) (w1 := [(h0, .inr (6, [.ref tk, .int u_40, .int u_41])), (tk, .inr (10, [.ref tp, .int u_42, .int u_43, .int u_44, .int u_45])), (tp, .inr (9, [.ref by_, .int le])), (by_, .inl (E.2.1 0, 800, .inl f))]) hP hD [5, 6, 7, 8] [0, 1, 2, 3, 4] rfl rfl (by decide) (by decide) hk1 hFc hP1 hD1
            generalize H1 = H at hP hS ⊢
            have hP : va_P E.1 vwCl [(into, .inr (7, [.ref s1, .ref s2, .ref s3, .ref s4, .int sz_])), (s1, .inl (E.2.1 0, 12, .inl r1)), (s2, .inl (E.2.1 1, 12, .inl r2)), (s3, .inl (E.2.1 0, 12, .inl r3)), (s4, .inl (E.2.1 0, 12, .inl r4)), (h0, .inr (6, [.ref tk, .int u_40, .int u_41])), (tk, .inr (10, [.ref tp, .int u_42, .int u_43, .int u_44, .int u_45])), (tp, .inr (9, [.ref by_, .int le])), (by_, .inl (E.2.1 0, 800, .inl f))] H := hP
            have hD : va_D A [(into, .inr (7, [.ref s1, .ref s2, .ref s3, .ref s4, .int sz_])), (s1, .inl (E.2.1 0, 12, .inl r1)), (s2, .inl (E.2.1 1, 12, .inl r2)), (s3, .inl (E.2.1 0, 12, .inl r3)), (s4, .inl (E.2.1 0, 12, .inl r4)), (h0, .inr (6, [.ref tk, .int u_40, .int u_41])), (tk, .inr (10, [.ref tp, .int u_42, .int u_43, .int u_44, .int u_45])), (tp, .inr (9, [.ref by_, .int le])), (by_, .inl (E.2.1 0, 800, .inl f))] := hD
            refine lv_if_ne (tgt := 110) hx hb dX6_readRule_105 (by decide) (fun c_46 => ?_) (fun c_46 => ?_)
            · refine lv_aload_n hx hb dX6_readRule_110 rfl (lv_at hl 3 rfl) ?_
              refine va_ldcS hx hb hown (hkn.2.2.2 9 (by decide)) dX6_readRule_111 ?_
              refine va_ldcS hx hb hown (hkn.2.2.2 10 (by decide)) dX6_readRule_113 ?_
              refine va_ldcS hx hb hown (hkn.2.2.2 11 (by decide)) dX6_readRule_115 ?_
              refine va_ldcS hx hb hown (hkn.2.2.2 7 (by decide)) dX6_readRule_117 ?_
              have hPc := hP.sub (ws' := [(h0, .inr (6, [.ref tk, .int u_40, .int u_41])), (tk, .inr (10, [.ref tp, .int u_42, .int u_43, .int u_44, .int u_45])), (tp, .inr (9, [.ref by_, .int le])), (by_, .inl (E.2.1 0, 800, .inl f))]) [5, 6, 7, 8] rfl
              have hDc := hD.sub (ws' := [(h0, .inr (6, [.ref tk, .int u_40, .int u_41])), (tk, .inr (10, [.ref tp, .int u_42, .int u_43, .int u_44, .int u_45])), (tp, .inr (9, [.ref by_, .int le])), (by_, .inl (E.2.1 0, 800, .inl f))]) [5, 6, 7, 8] (by decide) rfl
              have hFc := va_free (wc := [(h0, .inr (6, [.ref tk, .int u_40, .int u_41])), (tk, .inr (10, [.ref tp, .int u_42, .int u_43, .int u_44, .int u_45])), (tp, .inr (9, [.ref by_, .int le])), (by_, .inl (E.2.1 0, 800, .inl f))]) hD hS hA [5, 6, 7, 8] rfl
              refine va_calli (va_runV (As := [.ref (E.2.2.1 9), .ref (E.2.2.1 10), .ref (E.2.2.1 11), .ref (E.2.2.1 7)]) (rest := []) ⟨hx, hb, hml, hown, hts⟩ (c_X6_takeOneOf l E h0 tk tp by_ u_40 u_41 u_42 u_43 u_44 u_45 le f 9 10 11 7 H.size (by decide) (by decide) (by decide) (by decide)) (cwV 4 hts gX6_readRule_X6_takeOneOf rfl rfl rfl hdV_X6_takeOneOf ⟨Nat.le_of_ble_eq_true rfl, Nat.le_of_ble_eq_true rfl⟩) ⟨pcW_blind, va_recv hK hPc (ci := 6) (q0 := 0) rfl rfl, (pcW_pre hPc hkn hDc hst hS hFc)⟩ rfl rfl hl.1 rfl (lv_room (Nat.le_of_ble_eq_true rfl)) dX6_readRule_119 ⟨Nat.le_of_ble_eq_true rfl, Nat.le_of_ble_eq_true rfl⟩) hS (fun q _ h => hFc q h) hFc (fun r_47 u t H1 locs ht hvm hw_48 hB hz1 hk1 hS => ?_)
              obtain ⟨u_49, u_50, u_51, u_52, u_53, u_54⟩ := u
              obtain ⟨hP1, hD1⟩ := hB
              rw [ht] at hP1
              try dsimp only at hw_48
              obtain ⟨hP, hD⟩ := va_join (wr := [(into, .inr (7, [.ref s1, .ref s2, .ref s3, .ref s4, .int sz_])), (s1, .inl (E.2.1 0, 12, .inl r1)), (s2, .inl (E.2.1 1, 12, .inl r2)), (s3, .inl (E.2.1 0, 12, .inl r3)), (s4, .inl (E.2.1 0, 12, .inl r4))]) (w1 := [(h0, .inr (6, [.ref tk, .int u_49, .int u_50])), (tk, .inr (10, [.ref tp, .int u_51, .int u_52, .int u_53, .int u_54])), (tp, .inr (9, [.ref by_, .int le])), (by_, .inl (E.2.1 0, 800, .inl f))]) hP hD [5, 6, 7, 8] [0, 1, 2, 3, 4] rfl rfl (by decide) (by decide) hk1 hFc hP1 hD1
              generalize H1 = H at hP hS ⊢
              have hP : va_P E.1 vwCl [(into, .inr (7, [.ref s1, .ref s2, .ref s3, .ref s4, .int sz_])), (s1, .inl (E.2.1 0, 12, .inl r1)), (s2, .inl (E.2.1 1, 12, .inl r2)), (s3, .inl (E.2.1 0, 12, .inl r3)), (s4, .inl (E.2.1 0, 12, .inl r4)), (h0, .inr (6, [.ref tk, .int u_49, .int u_50])), (tk, .inr (10, [.ref tp, .int u_51, .int u_52, .int u_53, .int u_54])), (tp, .inr (9, [.ref by_, .int le])), (by_, .inl (E.2.1 0, 800, .inl f))] H := hP
              have hD : va_D A [(into, .inr (7, [.ref s1, .ref s2, .ref s3, .ref s4, .int sz_])), (s1, .inl (E.2.1 0, 12, .inl r1)), (s2, .inl (E.2.1 1, 12, .inl r2)), (s3, .inl (E.2.1 0, 12, .inl r3)), (s4, .inl (E.2.1 0, 12, .inl r4)), (h0, .inr (6, [.ref tk, .int u_49, .int u_50])), (tk, .inr (10, [.ref tp, .int u_51, .int u_52, .int u_53, .int u_54])), (tp, .inr (9, [.ref by_, .int le])), (by_, .inl (E.2.1 0, 800, .inl f))] := hD
              refine lv_istore (lv' := [(5, .int r_47), (4, .int r_29), (3, .int r_20), (2, .int r_11), (0, .ref h0), (1, .ref into)]) hx hb dX6_readRule_122 hl (by decide) rfl (fun ls hl => ?_)
              refine lv_iload hx hb dX6_readRule_124 (lv_at hl 0 rfl) ?_
              refine lv_iconst (v := (-1)) hx hb dX6_readRule_126 (by decide) ?_
              refine lv_icmp_eq (tgt := 137) hx hb dX6_readRule_127 (by decide) (fun c_55 => ?_) (fun c_55 => ?_)
              · refine lv_iconst (v := 0) hx hb dX6_readRule_137 (by decide) ?_
                have hP9 := hP.sub (ws' := [(h0, .inr (6, [.ref tk, .int u_49, .int u_50])), (tk, .inr (10, [.ref tp, .int u_51, .int u_52, .int u_53, .int u_54])), (tp, .inr (9, [.ref by_, .int le])), (by_, .inl (E.2.1 0, 800, .inl f)), (into, .inr (7, [.ref s1, .ref s2, .ref s3, .ref s4, .int sz_])), (s1, .inl (E.2.1 0, 12, .inl r1)), (s2, .inl (E.2.1 1, 12, .inl r2)), (s3, .inl (E.2.1 0, 12, .inl r3)), (s4, .inl (E.2.1 0, 12, .inl r4))]) [5, 6, 7, 8, 0, 1, 2, 3, 4] rfl
                have hD9 := hD.sub (ws' := [(h0, .inr (6, [.ref tk, .int u_49, .int u_50])), (tk, .inr (10, [.ref tp, .int u_51, .int u_52, .int u_53, .int u_54])), (tp, .inr (9, [.ref by_, .int le])), (by_, .inl (E.2.1 0, 800, .inl f)), (into, .inr (7, [.ref s1, .ref s2, .ref s3, .ref s4, .int sz_])), (s1, .inl (E.2.1 0, 12, .inl r1)), (s2, .inl (E.2.1 1, 12, .inl r2)), (s3, .inl (E.2.1 0, 12, .inl r3)), (s4, .inl (E.2.1 0, 12, .inl r4))]) [5, 6, 7, 8, 0, 1, 2, 3, 4] (by decide) rfl
                exact W.zret (v := 0) hx hb hr (by decide) (fun t ht hW => ⟨⟨0, (u_49, u_50, u_51, u_52, u_53, u_54, sz_, r1, r2, r3, r4), rfl, Or.inl rfl, by rw [ht]; exact hP9, hD9⟩, hS.F ht⟩) hS.2.2 dX6_readRule_138
              · refine lv_aload_n hx hb dX6_readRule_130 rfl (lv_at hl 4 rfl) ?_
                have hPc := hP.sub (ws' := [(h0, .inr (6, [.ref tk, .int u_49, .int u_50])), (tk, .inr (10, [.ref tp, .int u_51, .int u_52, .int u_53, .int u_54])), (tp, .inr (9, [.ref by_, .int le])), (by_, .inl (E.2.1 0, 800, .inl f))]) [5, 6, 7, 8] rfl
                have hDc := hD.sub (ws' := [(h0, .inr (6, [.ref tk, .int u_49, .int u_50])), (tk, .inr (10, [.ref tp, .int u_51, .int u_52, .int u_53, .int u_54])), (tp, .inr (9, [.ref by_, .int le])), (by_, .inl (E.2.1 0, 800, .inl f))]) [5, 6, 7, 8] (by decide) rfl
                have hFc := va_free (wc := [(h0, .inr (6, [.ref tk, .int u_49, .int u_50])), (tk, .inr (10, [.ref tp, .int u_51, .int u_52, .int u_53, .int u_54])), (tp, .inr (9, [.ref by_, .int le])), (by_, .inl (E.2.1 0, 800, .inl f))]) hD hS hA [5, 6, 7, 8] rfl
                refine va_calli (va_runV (As := []) (rest := []) ⟨hx, hb, hml, hown, hts⟩ (c_X6_takeStop l E h0 tk tp by_ u_49 u_50 u_51 u_52 u_53 u_54 le f H.size ) (cwV 0 hts gX6_readRule_X6_takeStop rfl rfl rfl hdV_X6_takeStop ⟨Nat.le_of_ble_eq_true rfl, Nat.le_of_ble_eq_true rfl⟩) ⟨pcW_blind, va_recv hK hPc (ci := 6) (q0 := 0) rfl rfl, (pcW_pre hPc hkn hDc hst hS hFc)⟩ rfl rfl hl.1 rfl (lv_room (Nat.le_of_ble_eq_true rfl)) dX6_readRule_131 ⟨Nat.le_of_ble_eq_true rfl, Nat.le_of_ble_eq_true rfl⟩) hS (fun q _ h => hFc q h) hFc (fun r_56 u t H1 locs ht hvm hw_57 hB hz1 hk1 hS => ?_)
                obtain ⟨u_58, u_59, u_60, u_61, u_62, u_63⟩ := u
                obtain ⟨hP1, hD1⟩ := hB
                rw [ht] at hP1
                try dsimp only at hw_57
                obtain ⟨hP, hD⟩ := va_join (wr := [(into, .inr (7, [.ref s1, .ref s2, .ref s3, .ref s4, .int sz_])), (s1, .inl (E.2.1 0, 12, .inl r1)), (s2, .inl (E.2.1 1, 12, .inl r2)), (s3, .inl (E.2.1 0, 12, .inl r3)), (s4, .inl (E.2.1 0, 12, .inl r4))]) (w1 := [(h0, .inr (6, [.ref tk, .int u_58, .int u_59])), (tk, .inr (10, [.ref tp, .int u_60, .int u_61, .int u_62, .int u_63])), (tp, .inr (9, [.ref by_, .int le])), (by_, .inl (E.2.1 0, 800, .inl f))]) hP hD [5, 6, 7, 8] [0, 1, 2, 3, 4] rfl rfl (by decide) (by decide) hk1 hFc hP1 hD1
                generalize H1 = H at hP hS ⊢
                have hP : va_P E.1 vwCl [(into, .inr (7, [.ref s1, .ref s2, .ref s3, .ref s4, .int sz_])), (s1, .inl (E.2.1 0, 12, .inl r1)), (s2, .inl (E.2.1 1, 12, .inl r2)), (s3, .inl (E.2.1 0, 12, .inl r3)), (s4, .inl (E.2.1 0, 12, .inl r4)), (h0, .inr (6, [.ref tk, .int u_58, .int u_59])), (tk, .inr (10, [.ref tp, .int u_60, .int u_61, .int u_62, .int u_63])), (tp, .inr (9, [.ref by_, .int le])), (by_, .inl (E.2.1 0, 800, .inl f))] H := hP
                have hD : va_D A [(into, .inr (7, [.ref s1, .ref s2, .ref s3, .ref s4, .int sz_])), (s1, .inl (E.2.1 0, 12, .inl r1)), (s2, .inl (E.2.1 1, 12, .inl r2)), (s3, .inl (E.2.1 0, 12, .inl r3)), (s4, .inl (E.2.1 0, 12, .inl r4)), (h0, .inr (6, [.ref tk, .int u_58, .int u_59])), (tk, .inr (10, [.ref tp, .int u_60, .int u_61, .int u_62, .int u_63])), (tp, .inr (9, [.ref by_, .int le])), (by_, .inl (E.2.1 0, 800, .inl f))] := hD
                refine lv_if_ne (tgt := 139) hx hb dX6_readRule_134 (by decide) (fun c_64 => ?_) (fun c_64 => ?_)
                · refine lv_aload_n hx hb dX6_readRule_139 rfl (lv_at hl 5 rfl) ?_
                  refine lv_iload_n hx hb dX6_readRule_140 rfl (lv_at hl 3 rfl) ?_
                  refine lv_iload_n hx hb dX6_readRule_141 rfl (lv_at hl 2 rfl) ?_
                  refine lv_if_ne (tgt := 149) hx hb dX6_readRule_142 (by decide) (fun c_65 => ?_) (fun c_65 => ?_)
                  · refine lv_iconst (v := 0) hx hb dX6_readRule_149 (by decide) ?_
                    refine lv_iload hx hb dX6_readRule_150 (lv_at hl 1 rfl) ?_
                    refine lv_iload hx hb dX6_readRule_152 (lv_at hl 0 rfl) ?_
                    have hPc := hP.sub (ws' := [(into, .inr (7, [.ref s1, .ref s2, .ref s3, .ref s4, .int sz_])), (s1, .inl (E.2.1 0, 12, .inl r1)), (s2, .inl (E.2.1 1, 12, .inl r2)), (s3, .inl (E.2.1 0, 12, .inl r3)), (s4, .inl (E.2.1 0, 12, .inl r4))]) [0, 1, 2, 3, 4] rfl
                    have hDc := hD.sub (ws' := [(into, .inr (7, [.ref s1, .ref s2, .ref s3, .ref s4, .int sz_])), (s1, .inl (E.2.1 0, 12, .inl r1)), (s2, .inl (E.2.1 1, 12, .inl r2)), (s3, .inl (E.2.1 0, 12, .inl r3)), (s4, .inl (E.2.1 0, 12, .inl r4))]) [0, 1, 2, 3, 4] (by decide) rfl
                    have hFc := va_free (wc := [(into, .inr (7, [.ref s1, .ref s2, .ref s3, .ref s4, .int sz_])), (s1, .inl (E.2.1 0, 12, .inl r1)), (s2, .inl (E.2.1 1, 12, .inl r2)), (s3, .inl (E.2.1 0, 12, .inl r3)), (s4, .inl (E.2.1 0, 12, .inl r4))]) hD hS hA [0, 1, 2, 3, 4] rfl
                    refine va_callv (va_runV (As := [.int r_11, .int 0, .int r_29, .int r_47]) (rest := []) ⟨hx, hb, hml, hown, hts⟩ (c_X7_add l E into s1 s2 s3 s4 sz_ r1 r2 r3 r4 r_11 0 r_29 r_47 H.size ) (cwV 4 hts gX6_readRule_X7_add rfl rfl rfl hdV_X7_add ⟨Nat.le_of_ble_eq_true rfl, Nat.le_of_ble_eq_true rfl⟩) ⟨pcW_blind, va_recv hK hPc (ci := 7) (q0 := 0) rfl rfl, (pcW_pre hPc hkn hDc hst hS hFc)⟩ rfl rfl hl.1 rfl (lv_room (Nat.le_of_ble_eq_true rfl)) dX6_readRule_154 ⟨Nat.le_of_ble_eq_true rfl, Nat.le_of_ble_eq_true rfl⟩) hS (fun q _ h => hFc q h) hFc (fun u t H1 locs ht hvm hw_67 hB hz1 hk1 hS => ?_)
                    obtain ⟨u_68, u_69, u_70, u_71, u_72⟩ := u
                    obtain ⟨hP1, hD1⟩ := hB
                    rw [ht] at hP1
                    try dsimp only at hw_67
                    obtain ⟨hP, hD⟩ := va_join (wr := [(h0, .inr (6, [.ref tk, .int u_58, .int u_59])), (tk, .inr (10, [.ref tp, .int u_60, .int u_61, .int u_62, .int u_63])), (tp, .inr (9, [.ref by_, .int le])), (by_, .inl (E.2.1 0, 800, .inl f))]) (w1 := [(into, .inr (7, [.ref s1, .ref s2, .ref s3, .ref s4, .int u_68])), (s1, .inl (E.2.1 0, 12, .inl u_69)), (s2, .inl (E.2.1 1, 12, .inl u_70)), (s3, .inl (E.2.1 0, 12, .inl u_71)), (s4, .inl (E.2.1 0, 12, .inl u_72))]) hP hD [0, 1, 2, 3, 4] [5, 6, 7, 8] rfl rfl (by decide) (by decide) hk1 hFc hP1 hD1
                    generalize H1 = H at hP hS ⊢
                    have hP : va_P E.1 vwCl [(h0, .inr (6, [.ref tk, .int u_58, .int u_59])), (tk, .inr (10, [.ref tp, .int u_60, .int u_61, .int u_62, .int u_63])), (tp, .inr (9, [.ref by_, .int le])), (by_, .inl (E.2.1 0, 800, .inl f)), (into, .inr (7, [.ref s1, .ref s2, .ref s3, .ref s4, .int u_68])), (s1, .inl (E.2.1 0, 12, .inl u_69)), (s2, .inl (E.2.1 1, 12, .inl u_70)), (s3, .inl (E.2.1 0, 12, .inl u_71)), (s4, .inl (E.2.1 0, 12, .inl u_72))] H := hP
                    have hD : va_D A [(h0, .inr (6, [.ref tk, .int u_58, .int u_59])), (tk, .inr (10, [.ref tp, .int u_60, .int u_61, .int u_62, .int u_63])), (tp, .inr (9, [.ref by_, .int le])), (by_, .inl (E.2.1 0, 800, .inl f)), (into, .inr (7, [.ref s1, .ref s2, .ref s3, .ref s4, .int u_68])), (s1, .inl (E.2.1 0, 12, .inl u_69)), (s2, .inl (E.2.1 1, 12, .inl u_70)), (s3, .inl (E.2.1 0, 12, .inl u_71)), (s4, .inl (E.2.1 0, 12, .inl u_72))] := hD
                    refine lv_iconst (v := 1) hx hb dX6_readRule_157 (by decide) ?_
                    have hP9 := hP.sub (ws' := [(h0, .inr (6, [.ref tk, .int u_58, .int u_59])), (tk, .inr (10, [.ref tp, .int u_60, .int u_61, .int u_62, .int u_63])), (tp, .inr (9, [.ref by_, .int le])), (by_, .inl (E.2.1 0, 800, .inl f)), (into, .inr (7, [.ref s1, .ref s2, .ref s3, .ref s4, .int u_68])), (s1, .inl (E.2.1 0, 12, .inl u_69)), (s2, .inl (E.2.1 1, 12, .inl u_70)), (s3, .inl (E.2.1 0, 12, .inl u_71)), (s4, .inl (E.2.1 0, 12, .inl u_72))]) [0, 1, 2, 3, 4, 5, 6, 7, 8] rfl
                    have hD9 := hD.sub (ws' := [(h0, .inr (6, [.ref tk, .int u_58, .int u_59])), (tk, .inr (10, [.ref tp, .int u_60, .int u_61, .int u_62, .int u_63])), (tp, .inr (9, [.ref by_, .int le])), (by_, .inl (E.2.1 0, 800, .inl f)), (into, .inr (7, [.ref s1, .ref s2, .ref s3, .ref s4, .int u_68])), (s1, .inl (E.2.1 0, 12, .inl u_69)), (s2, .inl (E.2.1 1, 12, .inl u_70)), (s3, .inl (E.2.1 0, 12, .inl u_71)), (s4, .inl (E.2.1 0, 12, .inl u_72))]) [0, 1, 2, 3, 4, 5, 6, 7, 8] (by decide) rfl
                    exact W.zret (v := 1) hx hb hr (by decide) (fun t ht hW => ⟨⟨1, (u_58, u_59, u_60, u_61, u_62, u_63, u_68, u_69, u_70, u_71, u_72), rfl, Or.inr rfl, by rw [ht]; exact hP9, hD9⟩, hS.F ht⟩) hS.2.2 dX6_readRule_158
                  · refine lv_iconst (v := 1) hx hb dX6_readRule_145 (by decide) ?_
                    refine lv_goto (tgt := 150) hx hb dX6_readRule_146 (by decide) ?_
                    refine lv_iload hx hb dX6_readRule_150 (lv_at hl 1 rfl) ?_
                    refine lv_iload hx hb dX6_readRule_152 (lv_at hl 0 rfl) ?_
                    have hPc := hP.sub (ws' := [(into, .inr (7, [.ref s1, .ref s2, .ref s3, .ref s4, .int sz_])), (s1, .inl (E.2.1 0, 12, .inl r1)), (s2, .inl (E.2.1 1, 12, .inl r2)), (s3, .inl (E.2.1 0, 12, .inl r3)), (s4, .inl (E.2.1 0, 12, .inl r4))]) [0, 1, 2, 3, 4] rfl
                    have hDc := hD.sub (ws' := [(into, .inr (7, [.ref s1, .ref s2, .ref s3, .ref s4, .int sz_])), (s1, .inl (E.2.1 0, 12, .inl r1)), (s2, .inl (E.2.1 1, 12, .inl r2)), (s3, .inl (E.2.1 0, 12, .inl r3)), (s4, .inl (E.2.1 0, 12, .inl r4))]) [0, 1, 2, 3, 4] (by decide) rfl
                    have hFc := va_free (wc := [(into, .inr (7, [.ref s1, .ref s2, .ref s3, .ref s4, .int sz_])), (s1, .inl (E.2.1 0, 12, .inl r1)), (s2, .inl (E.2.1 1, 12, .inl r2)), (s3, .inl (E.2.1 0, 12, .inl r3)), (s4, .inl (E.2.1 0, 12, .inl r4))]) hD hS hA [0, 1, 2, 3, 4] rfl
                    refine va_callv (va_runV (As := [.int r_11, .int 1, .int r_29, .int r_47]) (rest := []) ⟨hx, hb, hml, hown, hts⟩ (c_X7_add l E into s1 s2 s3 s4 sz_ r1 r2 r3 r4 r_11 1 r_29 r_47 H.size ) (cwV 4 hts gX6_readRule_X7_add rfl rfl rfl hdV_X7_add ⟨Nat.le_of_ble_eq_true rfl, Nat.le_of_ble_eq_true rfl⟩) ⟨pcW_blind, va_recv hK hPc (ci := 7) (q0 := 0) rfl rfl, (pcW_pre hPc hkn hDc hst hS hFc)⟩ rfl rfl hl.1 rfl (lv_room (Nat.le_of_ble_eq_true rfl)) dX6_readRule_154 ⟨Nat.le_of_ble_eq_true rfl, Nat.le_of_ble_eq_true rfl⟩) hS (fun q _ h => hFc q h) hFc (fun u t H1 locs ht hvm hw_74 hB hz1 hk1 hS => ?_)
                    obtain ⟨u_75, u_76, u_77, u_78, u_79⟩ := u
                    obtain ⟨hP1, hD1⟩ := hB
                    rw [ht] at hP1
                    try dsimp only at hw_74
                    obtain ⟨hP, hD⟩ := va_join (wr := [(h0, .inr (6, [.ref tk, .int u_58, .int u_59])), (tk, .inr (10, [.ref tp, .int u_60, .int u_61, .int u_62, .int u_63])), (tp, .inr (9, [.ref by_, .int le])), (by_, .inl (E.2.1 0, 800, .inl f))]) (w1 := [(into, .inr (7, [.ref s1, .ref s2, .ref s3, .ref s4, .int u_75])), (s1, .inl (E.2.1 0, 12, .inl u_76)), (s2, .inl (E.2.1 1, 12, .inl u_77)), (s3, .inl (E.2.1 0, 12, .inl u_78)), (s4, .inl (E.2.1 0, 12, .inl u_79))]) hP hD [0, 1, 2, 3, 4] [5, 6, 7, 8] rfl rfl (by decide) (by decide) hk1 hFc hP1 hD1
                    generalize H1 = H at hP hS ⊢
                    have hP : va_P E.1 vwCl [(h0, .inr (6, [.ref tk, .int u_58, .int u_59])), (tk, .inr (10, [.ref tp, .int u_60, .int u_61, .int u_62, .int u_63])), (tp, .inr (9, [.ref by_, .int le])), (by_, .inl (E.2.1 0, 800, .inl f)), (into, .inr (7, [.ref s1, .ref s2, .ref s3, .ref s4, .int u_75])), (s1, .inl (E.2.1 0, 12, .inl u_76)), (s2, .inl (E.2.1 1, 12, .inl u_77)), (s3, .inl (E.2.1 0, 12, .inl u_78)), (s4, .inl (E.2.1 0, 12, .inl u_79))] H := hP
                    have hD : va_D A [(h0, .inr (6, [.ref tk, .int u_58, .int u_59])), (tk, .inr (10, [.ref tp, .int u_60, .int u_61, .int u_62, .int u_63])), (tp, .inr (9, [.ref by_, .int le])), (by_, .inl (E.2.1 0, 800, .inl f)), (into, .inr (7, [.ref s1, .ref s2, .ref s3, .ref s4, .int u_75])), (s1, .inl (E.2.1 0, 12, .inl u_76)), (s2, .inl (E.2.1 1, 12, .inl u_77)), (s3, .inl (E.2.1 0, 12, .inl u_78)), (s4, .inl (E.2.1 0, 12, .inl u_79))] := hD
                    refine lv_iconst (v := 1) hx hb dX6_readRule_157 (by decide) ?_
                    have hP9 := hP.sub (ws' := [(h0, .inr (6, [.ref tk, .int u_58, .int u_59])), (tk, .inr (10, [.ref tp, .int u_60, .int u_61, .int u_62, .int u_63])), (tp, .inr (9, [.ref by_, .int le])), (by_, .inl (E.2.1 0, 800, .inl f)), (into, .inr (7, [.ref s1, .ref s2, .ref s3, .ref s4, .int u_75])), (s1, .inl (E.2.1 0, 12, .inl u_76)), (s2, .inl (E.2.1 1, 12, .inl u_77)), (s3, .inl (E.2.1 0, 12, .inl u_78)), (s4, .inl (E.2.1 0, 12, .inl u_79))]) [0, 1, 2, 3, 4, 5, 6, 7, 8] rfl
                    have hD9 := hD.sub (ws' := [(h0, .inr (6, [.ref tk, .int u_58, .int u_59])), (tk, .inr (10, [.ref tp, .int u_60, .int u_61, .int u_62, .int u_63])), (tp, .inr (9, [.ref by_, .int le])), (by_, .inl (E.2.1 0, 800, .inl f)), (into, .inr (7, [.ref s1, .ref s2, .ref s3, .ref s4, .int u_75])), (s1, .inl (E.2.1 0, 12, .inl u_76)), (s2, .inl (E.2.1 1, 12, .inl u_77)), (s3, .inl (E.2.1 0, 12, .inl u_78)), (s4, .inl (E.2.1 0, 12, .inl u_79))]) [0, 1, 2, 3, 4, 5, 6, 7, 8] (by decide) rfl
                    exact W.zret (v := 1) hx hb hr (by decide) (fun t ht hW => ⟨⟨1, (u_58, u_59, u_60, u_61, u_62, u_63, u_75, u_76, u_77, u_78, u_79), rfl, Or.inr rfl, by rw [ht]; exact hP9, hD9⟩, hS.F ht⟩) hS.2.2 dX6_readRule_158
                · refine lv_iconst (v := 0) hx hb dX6_readRule_137 (by decide) ?_
                  have hP9 := hP.sub (ws' := [(h0, .inr (6, [.ref tk, .int u_58, .int u_59])), (tk, .inr (10, [.ref tp, .int u_60, .int u_61, .int u_62, .int u_63])), (tp, .inr (9, [.ref by_, .int le])), (by_, .inl (E.2.1 0, 800, .inl f)), (into, .inr (7, [.ref s1, .ref s2, .ref s3, .ref s4, .int sz_])), (s1, .inl (E.2.1 0, 12, .inl r1)), (s2, .inl (E.2.1 1, 12, .inl r2)), (s3, .inl (E.2.1 0, 12, .inl r3)), (s4, .inl (E.2.1 0, 12, .inl r4))]) [5, 6, 7, 8, 0, 1, 2, 3, 4] rfl
                  have hD9 := hD.sub (ws' := [(h0, .inr (6, [.ref tk, .int u_58, .int u_59])), (tk, .inr (10, [.ref tp, .int u_60, .int u_61, .int u_62, .int u_63])), (tp, .inr (9, [.ref by_, .int le])), (by_, .inl (E.2.1 0, 800, .inl f)), (into, .inr (7, [.ref s1, .ref s2, .ref s3, .ref s4, .int sz_])), (s1, .inl (E.2.1 0, 12, .inl r1)), (s2, .inl (E.2.1 1, 12, .inl r2)), (s3, .inl (E.2.1 0, 12, .inl r3)), (s4, .inl (E.2.1 0, 12, .inl r4))]) [5, 6, 7, 8, 0, 1, 2, 3, 4] (by decide) rfl
                  exact W.zret (v := 0) hx hb hr (by decide) (fun t ht hW => ⟨⟨0, (u_58, u_59, u_60, u_61, u_62, u_63, sz_, r1, r2, r3, r4), rfl, Or.inl rfl, by rw [ht]; exact hP9, hD9⟩, hS.F ht⟩) hS.2.2 dX6_readRule_138
            · refine lv_iconst (v := 0) hx hb dX6_readRule_108 (by decide) ?_
              have hP9 := hP.sub (ws' := [(h0, .inr (6, [.ref tk, .int u_40, .int u_41])), (tk, .inr (10, [.ref tp, .int u_42, .int u_43, .int u_44, .int u_45])), (tp, .inr (9, [.ref by_, .int le])), (by_, .inl (E.2.1 0, 800, .inl f)), (into, .inr (7, [.ref s1, .ref s2, .ref s3, .ref s4, .int sz_])), (s1, .inl (E.2.1 0, 12, .inl r1)), (s2, .inl (E.2.1 1, 12, .inl r2)), (s3, .inl (E.2.1 0, 12, .inl r3)), (s4, .inl (E.2.1 0, 12, .inl r4))]) [5, 6, 7, 8, 0, 1, 2, 3, 4] rfl
              have hD9 := hD.sub (ws' := [(h0, .inr (6, [.ref tk, .int u_40, .int u_41])), (tk, .inr (10, [.ref tp, .int u_42, .int u_43, .int u_44, .int u_45])), (tp, .inr (9, [.ref by_, .int le])), (by_, .inl (E.2.1 0, 800, .inl f)), (into, .inr (7, [.ref s1, .ref s2, .ref s3, .ref s4, .int sz_])), (s1, .inl (E.2.1 0, 12, .inl r1)), (s2, .inl (E.2.1 1, 12, .inl r2)), (s3, .inl (E.2.1 0, 12, .inl r3)), (s4, .inl (E.2.1 0, 12, .inl r4))]) [5, 6, 7, 8, 0, 1, 2, 3, 4] (by decide) rfl
              exact W.zret (v := 0) hx hb hr (by decide) (fun t ht hW => ⟨⟨0, (u_40, u_41, u_42, u_43, u_44, u_45, sz_, r1, r2, r3, r4), rfl, Or.inl rfl, by rw [ht]; exact hP9, hD9⟩, hS.F ht⟩) hS.2.2 dX6_readRule_109
        · refine lv_iconst (v := (-1)) hx hb dX6_readRule_80 (by decide) ?_
          refine lv_goto (tgt := 91) hx hb dX6_readRule_81 (by decide) ?_
          refine lv_istore (lv' := [(4, .int (-1)), (3, .int r_20), (2, .int r_11), (0, .ref h0), (1, .ref into)]) hx hb dX6_readRule_91 hl (by decide) rfl (fun ls hl => ?_)
          refine lv_iload hx hb dX6_readRule_93 (lv_at hl 0 rfl) ?_
          refine lv_iconst (v := (-1)) hx hb dX6_readRule_95 (by decide) ?_
          refine lv_icmp_eq (tgt := 108) hx hb dX6_readRule_96 (by decide) (fun _ => ?_) (fun c9 => absurd c9 (by decide))
          refine lv_iconst (v := 0) hx hb dX6_readRule_108 (by decide) ?_
          have hP9 := hP.sub (ws' := [(h0, .inr (6, [.ref tk, .int u_22, .int u_23])), (tk, .inr (10, [.ref tp, .int u_24, .int u_25, .int u_26, .int u_27])), (tp, .inr (9, [.ref by_, .int le])), (by_, .inl (E.2.1 0, 800, .inl f)), (into, .inr (7, [.ref s1, .ref s2, .ref s3, .ref s4, .int sz_])), (s1, .inl (E.2.1 0, 12, .inl r1)), (s2, .inl (E.2.1 1, 12, .inl r2)), (s3, .inl (E.2.1 0, 12, .inl r3)), (s4, .inl (E.2.1 0, 12, .inl r4))]) [5, 6, 7, 8, 0, 1, 2, 3, 4] rfl
          have hD9 := hD.sub (ws' := [(h0, .inr (6, [.ref tk, .int u_22, .int u_23])), (tk, .inr (10, [.ref tp, .int u_24, .int u_25, .int u_26, .int u_27])), (tp, .inr (9, [.ref by_, .int le])), (by_, .inl (E.2.1 0, 800, .inl f)), (into, .inr (7, [.ref s1, .ref s2, .ref s3, .ref s4, .int sz_])), (s1, .inl (E.2.1 0, 12, .inl r1)), (s2, .inl (E.2.1 1, 12, .inl r2)), (s3, .inl (E.2.1 0, 12, .inl r3)), (s4, .inl (E.2.1 0, 12, .inl r4))]) [5, 6, 7, 8, 0, 1, 2, 3, 4] (by decide) rfl
          exact W.zret (v := 0) hx hb hr (by decide) (fun t ht hW => ⟨⟨0, (u_22, u_23, u_24, u_25, u_26, u_27, sz_, r1, r2, r3, r4), rfl, Or.inl rfl, by rw [ht]; exact hP9, hD9⟩, hS.F ht⟩) hS.2.2 dX6_readRule_109
      · refine lv_iconst (v := (-1)) hx hb dX6_readRule_58 (by decide) ?_
        refine lv_goto (tgt := 74) hx hb dX6_readRule_59 (by decide) ?_
        refine lv_istore_n (lv' := [(3, .int (-1)), (2, .int r_11), (0, .ref h0), (1, .ref into)]) hx hb dX6_readRule_74 rfl hl (by decide) rfl (fun ls hl => ?_)
        refine lv_iload_n hx hb dX6_readRule_75 rfl (lv_at hl 0 rfl) ?_
        refine lv_iconst (v := (-1)) hx hb dX6_readRule_76 (by decide) ?_
        refine lv_icmp_ne (tgt := 84) hx hb dX6_readRule_77 (by decide) (fun c9 => absurd c9 (by decide)) (fun _ => ?_)
        refine lv_iconst (v := (-1)) hx hb dX6_readRule_80 (by decide) ?_
        refine lv_goto (tgt := 91) hx hb dX6_readRule_81 (by decide) ?_
        refine lv_istore (lv' := [(4, .int (-1)), (3, .int (-1)), (2, .int r_11), (0, .ref h0), (1, .ref into)]) hx hb dX6_readRule_91 hl (by decide) rfl (fun ls hl => ?_)
        refine lv_iload hx hb dX6_readRule_93 (lv_at hl 0 rfl) ?_
        refine lv_iconst (v := (-1)) hx hb dX6_readRule_95 (by decide) ?_
        refine lv_icmp_eq (tgt := 108) hx hb dX6_readRule_96 (by decide) (fun _ => ?_) (fun c9 => absurd c9 (by decide))
        refine lv_iconst (v := 0) hx hb dX6_readRule_108 (by decide) ?_
        have hP9 := hP.sub (ws' := [(h0, .inr (6, [.ref tk, .int u_13, .int u_14])), (tk, .inr (10, [.ref tp, .int u_15, .int u_16, .int u_17, .int u_18])), (tp, .inr (9, [.ref by_, .int le])), (by_, .inl (E.2.1 0, 800, .inl f)), (into, .inr (7, [.ref s1, .ref s2, .ref s3, .ref s4, .int sz_])), (s1, .inl (E.2.1 0, 12, .inl r1)), (s2, .inl (E.2.1 1, 12, .inl r2)), (s3, .inl (E.2.1 0, 12, .inl r3)), (s4, .inl (E.2.1 0, 12, .inl r4))]) [5, 6, 7, 8, 0, 1, 2, 3, 4] rfl
        have hD9 := hD.sub (ws' := [(h0, .inr (6, [.ref tk, .int u_13, .int u_14])), (tk, .inr (10, [.ref tp, .int u_15, .int u_16, .int u_17, .int u_18])), (tp, .inr (9, [.ref by_, .int le])), (by_, .inl (E.2.1 0, 800, .inl f)), (into, .inr (7, [.ref s1, .ref s2, .ref s3, .ref s4, .int sz_])), (s1, .inl (E.2.1 0, 12, .inl r1)), (s2, .inl (E.2.1 1, 12, .inl r2)), (s3, .inl (E.2.1 0, 12, .inl r3)), (s4, .inl (E.2.1 0, 12, .inl r4))]) [5, 6, 7, 8, 0, 1, 2, 3, 4] (by decide) rfl
        exact W.zret (v := 0) hx hb hr (by decide) (fun t ht hW => ⟨⟨0, (u_13, u_14, u_15, u_16, u_17, u_18, sz_, r1, r2, r3, r4), rfl, Or.inl rfl, by rw [ht]; exact hP9, hD9⟩, hS.F ht⟩) hS.2.2 dX6_readRule_109
    · refine lv_aload_n hx hb dX6_readRule_27 rfl (lv_at hl 0 rfl) ?_
      refine lv_iconst (v := 4) hx hb dX6_readRule_28 (by decide) ?_
      have hPc := hP.sub (ws' := [(h0, .inr (6, [.ref tk, .int fk, .int fq])), (tk, .inr (10, [.ref tp, .int kd, .int sa, .int nu, .int be])), (tp, .inr (9, [.ref by_, .int le])), (by_, .inl (E.2.1 0, 800, .inl f))]) [0, 6, 7, 8] rfl
      have hDc := hD.sub (ws' := [(h0, .inr (6, [.ref tk, .int fk, .int fq])), (tk, .inr (10, [.ref tp, .int kd, .int sa, .int nu, .int be])), (tp, .inr (9, [.ref by_, .int le])), (by_, .inl (E.2.1 0, 800, .inl f))]) [0, 6, 7, 8] (by decide) rfl
      have hFc := va_free (wc := [(h0, .inr (6, [.ref tk, .int fk, .int fq])), (tk, .inr (10, [.ref tp, .int kd, .int sa, .int nu, .int be])), (tp, .inr (9, [.ref by_, .int le])), (by_, .inl (E.2.1 0, 800, .inl f))]) hD hS hA [0, 6, 7, 8] rfl
      refine va_calli (va_runV (As := [.int 4]) (rest := []) ⟨hx, hb, hml, hown, hts⟩ (c_X6_refuse l E h0 tk tp by_ fk fq kd sa nu be le f 4 H.size ) (cwV 1 hts gX6_readRule_X6_refuse rfl rfl rfl hdV_X6_refuse ⟨Nat.le_of_ble_eq_true rfl, Nat.le_of_ble_eq_true rfl⟩) ⟨pcW_blind, va_recv hK hPc (ci := 6) (q0 := 0) rfl rfl, (pcW_pre hPc hkn hDc hst hS hFc)⟩ rfl rfl hl.1 rfl (lv_room (Nat.le_of_ble_eq_true rfl)) dX6_readRule_29 ⟨Nat.le_of_ble_eq_true rfl, Nat.le_of_ble_eq_true rfl⟩) hS (fun q _ h => hFc q h) hFc (fun r_80 u t H1 locs ht hvm hw_81 hB hz1 hk1 hS => ?_)
      obtain ⟨u_82, u_83⟩ := u
      obtain ⟨hP1, hD1⟩ := hB
      rw [ht] at hP1
      try dsimp only at hw_81
      obtain ⟨hP, hD⟩ := va_join (wr := [(into, .inr (7, [.ref s1, .ref s2, .ref s3, .ref s4, .int sz_])), (s1, .inl (E.2.1 0, 12, .inl r1)), (s2, .inl (E.2.1 1, 12, .inl r2)), (s3, .inl (E.2.1 0, 12, .inl r3)), (s4, .inl (E.2.1 0, 12, .inl r4))]) (w1 := [(h0, .inr (6, [.ref tk, .int u_82, .int u_83])), (tk, .inr (10, [.ref tp, .int kd, .int sa, .int nu, .int be])), (tp, .inr (9, [.ref by_, .int le])), (by_, .inl (E.2.1 0, 800, .inl f))]) hP hD [0, 6, 7, 8] [1, 2, 3, 4, 5] rfl rfl (by decide) (by decide) hk1 hFc hP1 hD1
      generalize H1 = H at hP hS ⊢
      have hP : va_P E.1 vwCl [(into, .inr (7, [.ref s1, .ref s2, .ref s3, .ref s4, .int sz_])), (s1, .inl (E.2.1 0, 12, .inl r1)), (s2, .inl (E.2.1 1, 12, .inl r2)), (s3, .inl (E.2.1 0, 12, .inl r3)), (s4, .inl (E.2.1 0, 12, .inl r4)), (h0, .inr (6, [.ref tk, .int u_82, .int u_83])), (tk, .inr (10, [.ref tp, .int kd, .int sa, .int nu, .int be])), (tp, .inr (9, [.ref by_, .int le])), (by_, .inl (E.2.1 0, 800, .inl f))] H := hP
      have hD : va_D A [(into, .inr (7, [.ref s1, .ref s2, .ref s3, .ref s4, .int sz_])), (s1, .inl (E.2.1 0, 12, .inl r1)), (s2, .inl (E.2.1 1, 12, .inl r2)), (s3, .inl (E.2.1 0, 12, .inl r3)), (s4, .inl (E.2.1 0, 12, .inl r4)), (h0, .inr (6, [.ref tk, .int u_82, .int u_83])), (tk, .inr (10, [.ref tp, .int kd, .int sa, .int nu, .int be])), (tp, .inr (9, [.ref by_, .int le])), (by_, .inl (E.2.1 0, 800, .inl f))] := hD
      obtain rfl : r_80 = 0 := hw_81
      have hP9 := hP.sub (ws' := [(h0, .inr (6, [.ref tk, .int u_82, .int u_83])), (tk, .inr (10, [.ref tp, .int kd, .int sa, .int nu, .int be])), (tp, .inr (9, [.ref by_, .int le])), (by_, .inl (E.2.1 0, 800, .inl f)), (into, .inr (7, [.ref s1, .ref s2, .ref s3, .ref s4, .int sz_])), (s1, .inl (E.2.1 0, 12, .inl r1)), (s2, .inl (E.2.1 1, 12, .inl r2)), (s3, .inl (E.2.1 0, 12, .inl r3)), (s4, .inl (E.2.1 0, 12, .inl r4))]) [5, 6, 7, 8, 0, 1, 2, 3, 4] rfl
      have hD9 := hD.sub (ws' := [(h0, .inr (6, [.ref tk, .int u_82, .int u_83])), (tk, .inr (10, [.ref tp, .int kd, .int sa, .int nu, .int be])), (tp, .inr (9, [.ref by_, .int le])), (by_, .inl (E.2.1 0, 800, .inl f)), (into, .inr (7, [.ref s1, .ref s2, .ref s3, .ref s4, .int sz_])), (s1, .inl (E.2.1 0, 12, .inl r1)), (s2, .inl (E.2.1 1, 12, .inl r2)), (s3, .inl (E.2.1 0, 12, .inl r3)), (s4, .inl (E.2.1 0, 12, .inl r4))]) [5, 6, 7, 8, 0, 1, 2, 3, 4] (by decide) rfl
      exact W.zret (v := 0) hx hb hr (by decide) (fun t ht hW => ⟨⟨0, (u_82, u_83, kd, sa, nu, be, sz_, r1, r2, r3, r4), rfl, Or.inl rfl, by rw [ht]; exact hP9, hD9⟩, hS.F ht⟩) hS.2.2 dX6_readRule_32
  · refine lv_aload_n hx hb dX6_readRule_12 rfl (lv_at hl 0 rfl) ?_
    refine lv_iconst (v := 1) hx hb dX6_readRule_13 (by decide) ?_
    have hPc := hP.sub (ws' := [(h0, .inr (6, [.ref tk, .int fk, .int fq])), (tk, .inr (10, [.ref tp, .int kd, .int sa, .int nu, .int be])), (tp, .inr (9, [.ref by_, .int le])), (by_, .inl (E.2.1 0, 800, .inl f))]) [0, 6, 7, 8] rfl
    have hDc := hD.sub (ws' := [(h0, .inr (6, [.ref tk, .int fk, .int fq])), (tk, .inr (10, [.ref tp, .int kd, .int sa, .int nu, .int be])), (tp, .inr (9, [.ref by_, .int le])), (by_, .inl (E.2.1 0, 800, .inl f))]) [0, 6, 7, 8] (by decide) rfl
    have hFc := va_free (wc := [(h0, .inr (6, [.ref tk, .int fk, .int fq])), (tk, .inr (10, [.ref tp, .int kd, .int sa, .int nu, .int be])), (tp, .inr (9, [.ref by_, .int le])), (by_, .inl (E.2.1 0, 800, .inl f))]) hD hS hA [0, 6, 7, 8] rfl
    refine va_calli (va_runV (As := [.int 1]) (rest := []) ⟨hx, hb, hml, hown, hts⟩ (c_X6_refuse l E h0 tk tp by_ fk fq kd sa nu be le f 1 H.size ) (cwV 1 hts gX6_readRule_X6_refuse rfl rfl rfl hdV_X6_refuse ⟨Nat.le_of_ble_eq_true rfl, Nat.le_of_ble_eq_true rfl⟩) ⟨pcW_blind, va_recv hK hPc (ci := 6) (q0 := 0) rfl rfl, (pcW_pre hPc hkn hDc hst hS hFc)⟩ rfl rfl hl.1 rfl (lv_room (Nat.le_of_ble_eq_true rfl)) dX6_readRule_14 ⟨Nat.le_of_ble_eq_true rfl, Nat.le_of_ble_eq_true rfl⟩) hS (fun q _ h => hFc q h) hFc (fun r_84 u t H1 locs ht hvm hw_85 hB hz1 hk1 hS => ?_)
    obtain ⟨u_86, u_87⟩ := u
    obtain ⟨hP1, hD1⟩ := hB
    rw [ht] at hP1
    try dsimp only at hw_85
    obtain ⟨hP, hD⟩ := va_join (wr := [(into, .inr (7, [.ref s1, .ref s2, .ref s3, .ref s4, .int sz_])), (s1, .inl (E.2.1 0, 12, .inl r1)), (s2, .inl (E.2.1 1, 12, .inl r2)), (s3, .inl (E.2.1 0, 12, .inl r3)), (s4, .inl (E.2.1 0, 12, .inl r4))]) (w1 := [(h0, .inr (6, [.ref tk, .int u_86, .int u_87])), (tk, .inr (10, [.ref tp, .int kd, .int sa, .int nu, .int be])), (tp, .inr (9, [.ref by_, .int le])), (by_, .inl (E.2.1 0, 800, .inl f))]) hP hD [0, 6, 7, 8] [1, 2, 3, 4, 5] rfl rfl (by decide) (by decide) hk1 hFc hP1 hD1
    generalize H1 = H at hP hS ⊢
    have hP : va_P E.1 vwCl [(into, .inr (7, [.ref s1, .ref s2, .ref s3, .ref s4, .int sz_])), (s1, .inl (E.2.1 0, 12, .inl r1)), (s2, .inl (E.2.1 1, 12, .inl r2)), (s3, .inl (E.2.1 0, 12, .inl r3)), (s4, .inl (E.2.1 0, 12, .inl r4)), (h0, .inr (6, [.ref tk, .int u_86, .int u_87])), (tk, .inr (10, [.ref tp, .int kd, .int sa, .int nu, .int be])), (tp, .inr (9, [.ref by_, .int le])), (by_, .inl (E.2.1 0, 800, .inl f))] H := hP
    have hD : va_D A [(into, .inr (7, [.ref s1, .ref s2, .ref s3, .ref s4, .int sz_])), (s1, .inl (E.2.1 0, 12, .inl r1)), (s2, .inl (E.2.1 1, 12, .inl r2)), (s3, .inl (E.2.1 0, 12, .inl r3)), (s4, .inl (E.2.1 0, 12, .inl r4)), (h0, .inr (6, [.ref tk, .int u_86, .int u_87])), (tk, .inr (10, [.ref tp, .int kd, .int sa, .int nu, .int be])), (tp, .inr (9, [.ref by_, .int le])), (by_, .inl (E.2.1 0, 800, .inl f))] := hD
    obtain rfl : r_84 = 0 := hw_85
    have hP9 := hP.sub (ws' := [(h0, .inr (6, [.ref tk, .int u_86, .int u_87])), (tk, .inr (10, [.ref tp, .int kd, .int sa, .int nu, .int be])), (tp, .inr (9, [.ref by_, .int le])), (by_, .inl (E.2.1 0, 800, .inl f)), (into, .inr (7, [.ref s1, .ref s2, .ref s3, .ref s4, .int sz_])), (s1, .inl (E.2.1 0, 12, .inl r1)), (s2, .inl (E.2.1 1, 12, .inl r2)), (s3, .inl (E.2.1 0, 12, .inl r3)), (s4, .inl (E.2.1 0, 12, .inl r4))]) [5, 6, 7, 8, 0, 1, 2, 3, 4] rfl
    have hD9 := hD.sub (ws' := [(h0, .inr (6, [.ref tk, .int u_86, .int u_87])), (tk, .inr (10, [.ref tp, .int kd, .int sa, .int nu, .int be])), (tp, .inr (9, [.ref by_, .int le])), (by_, .inl (E.2.1 0, 800, .inl f)), (into, .inr (7, [.ref s1, .ref s2, .ref s3, .ref s4, .int sz_])), (s1, .inl (E.2.1 0, 12, .inl r1)), (s2, .inl (E.2.1 1, 12, .inl r2)), (s3, .inl (E.2.1 0, 12, .inl r3)), (s4, .inl (E.2.1 0, 12, .inl r4))]) [5, 6, 7, 8, 0, 1, 2, 3, 4] (by decide) rfl
    exact W.zret (v := 0) hx hb hr (by decide) (fun t ht hW => ⟨⟨0, (u_86, u_87, kd, sa, nu, be, sz_, r1, r2, r3, r4), rfl, Or.inl rfl, by rw [ht]; exact hP9, hD9⟩, hS.F ht⟩) hS.2.2 dX6_readRule_17
set_option maxHeartbeats 4000000 in
set_option maxRecDepth 100000 in
theorem lg_rules {p : Program} {l : Launch} {e : Env} {s : State} {m : MethodId} {args : Array Value} {below : List Frame} {meth : Method} {c : Code} {Q : State → Prop} {A : Nat → Prop} (E : vE) (h0 : Nat) (tk : Nat) (tp : Nat) (by_ : Nat) (le : Int32) (f : Nat → Int32) (into : Nat) (s1 : Nat) (s2 : Nat) (s3 : Nat) (s4 : Nat) (hx : p.tables.exec = Jvm.exec) (hb : c.code = cX6_readRules) (hml : c.maxLocals = 3) (hown : s.vm.findClass RX6 = some m.cls) (hts : ∀ w ∈ wsX6_readRules, w.before args s = true) (hkn : kn E s) (hst : st E A s s.heap) (hA : ∀ q : Nat, s.heap.size ≤ q → A q) (kk : ∀ (fk : Int32) (fq : Int32) (kd : Int32) (sa : Int32) (nu : Int32) (be : Int32) (sz_ : Int32) (r1 : Nat → Int32) (r2 : Nat → Int32) (r3 : Nat → Int32) (r4 : Nat → Int32) (H : Heap) (locs : List Loc) (ls : Array Slot), va_P E.1 vwCl [(h0, .inr (6, [.ref tk, .int fk, .int fq])), (tk, .inr (10, [.ref tp, .int kd, .int sa, .int nu, .int be])), (tp, .inr (9, [.ref by_, .int le])), (by_, .inl (E.2.1 0, 800, .inl f)), (into, .inr (7, [.ref s1, .ref s2, .ref s3, .ref s4, .int sz_])), (s1, .inl (E.2.1 0, 12, .inl r1)), (s2, .inl (E.2.1 1, 12, .inl r2)), (s3, .inl (E.2.1 0, 12, .inl r3)), (s4, .inl (E.2.1 0, 12, .inl r4))] H → va_D A [(h0, .inr (6, [.ref tk, .int fk, .int fq])), (tk, .inr (10, [.ref tp, .int kd, .int sa, .int nu, .int be])), (tp, .inr (9, [.ref by_, .int le])), (by_, .inl (E.2.1 0, 800, .inl f)), (into, .inr (7, [.ref s1, .ref s2, .ref s3, .ref s4, .int sz_])), (s1, .inl (E.2.1 0, 12, .inl r1)), (s2, .inl (E.2.1 1, 12, .inl r2)), (s3, .inl (E.2.1 0, 12, .inl r3)), (s4, .inl (E.2.1 0, 12, .inl r4))] → va_S A s.heap H locs → lv_has ls 3 [(0, .ref h0), (1, .ref into)] → W p l e ({ frames := 7, cells := 0, slots := 0, locals := 157 }) s m args below meth c H locs 0 0 Q (F0 m 44 ls [])) (kk2 : ∀ (fk : Int32) (fq : Int32) (kd : Int32) (sa : Int32) (nu : Int32) (be : Int32) (sz_ : Int32) (r1 : Nat → Int32) (r2 : Nat → Int32) (r3 : Nat → Int32) (r4 : Nat → Int32) (H : Heap) (locs : List Loc) (ls : Array Slot), va_P E.1 vwCl [(h0, .inr (6, [.ref tk, .int fk, .int fq])), (tk, .inr (10, [.ref tp, .int kd, .int sa, .int nu, .int be])), (tp, .inr (9, [.ref by_, .int le])), (by_, .inl (E.2.1 0, 800, .inl f)), (into, .inr (7, [.ref s1, .ref s2, .ref s3, .ref s4, .int sz_])), (s1, .inl (E.2.1 0, 12, .inl r1)), (s2, .inl (E.2.1 1, 12, .inl r2)), (s3, .inl (E.2.1 0, 12, .inl r3)), (s4, .inl (E.2.1 0, 12, .inl r4))] H → va_D A [(h0, .inr (6, [.ref tk, .int fk, .int fq])), (tk, .inr (10, [.ref tp, .int kd, .int sa, .int nu, .int be])), (tp, .inr (9, [.ref by_, .int le])), (by_, .inl (E.2.1 0, 800, .inl f)), (into, .inr (7, [.ref s1, .ref s2, .ref s3, .ref s4, .int sz_])), (s1, .inl (E.2.1 0, 12, .inl r1)), (s2, .inl (E.2.1 1, 12, .inl r2)), (s3, .inl (E.2.1 0, 12, .inl r3)), (s4, .inl (E.2.1 0, 12, .inl r4))] → va_S A s.heap H locs → lv_has ls 3 [(0, .ref h0), (1, .ref into)] → W p l e ({ frames := 7, cells := 0, slots := 0, locals := 157 }) s m args below meth c H locs 0 0 Q (F0 m 36 ls [])) : ∀ (n0 : Nat) (k : Nat) (fk : Int32) (fq : Int32) (kd : Int32) (sa : Int32) (nu : Int32) (be : Int32) (sz_ : Int32) (r1 : Nat → Int32) (r2 : Nat → Int32) (r3 : Nat → Int32) (r4 : Nat → Int32) (H : Heap) (locs : List Loc) (ls : Array Slot), 801 - k < n0 → (k ≤ 801) → va_P E.1 vwCl [(h0, .inr (6, [.ref tk, .int fk, .int fq])), (tk, .inr (10, [.ref tp, .int kd, .int sa, .int nu, .int be])), (tp, .inr (9, [.ref by_, .int le])), (by_, .inl (E.2.1 0, 800, .inl f)), (into, .inr (7, [.ref s1, .ref s2, .ref s3, .ref s4, .int sz_])), (s1, .inl (E.2.1 0, 12, .inl r1)), (s2, .inl (E.2.1 1, 12, .inl r2)), (s3, .inl (E.2.1 0, 12, .inl r3)), (s4, .inl (E.2.1 0, 12, .inl r4))] H → va_D A [(h0, .inr (6, [.ref tk, .int fk, .int fq])), (tk, .inr (10, [.ref tp, .int kd, .int sa, .int nu, .int be])), (tp, .inr (9, [.ref by_, .int le])), (by_, .inl (E.2.1 0, 800, .inl f)), (into, .inr (7, [.ref s1, .ref s2, .ref s3, .ref s4, .int sz_])), (s1, .inl (E.2.1 0, 12, .inl r1)), (s2, .inl (E.2.1 1, 12, .inl r2)), (s3, .inl (E.2.1 0, 12, .inl r3)), (s4, .inl (E.2.1 0, 12, .inl r4))] → va_S A s.heap H locs → lv_has ls 3 [(0, .ref h0), (1, .ref into), (2, .int (nI k))] → W p l e ({ frames := 7, cells := 0, slots := 0, locals := 157 }) s m args below meth c H locs 0 0 Q (F0 m 11 ls []) := by
  have hK := hkn.1
  have hAO := hkn.2.2.1
  have fl23 := hts (.fieldLink RX6 23 "BoatsHome$Reader" "tokens" "LBoatsHome$Tokens;") (by first | exact List.mem_of_getElem? (i := 2) rfl | decide +kernel)
  have fl27 := hts (.fieldLink RX6 27 "BoatsHome$Rules" "size" "I") (by first | exact List.mem_of_getElem? (i := 1) rfl | decide +kernel)
  have fl35 := hts (.fieldLink RX6 35 "BoatsHome$Tokens" "kind" "I") (by first | exact List.mem_of_getElem? (i := 3) rfl | decide +kernel)
  have inX10 : ∀ w ∈ u_ws RX10 TX10 5, w ∈ wsX6_readRules := by first | exact fun w h9 => (List.mem_cons_of_mem _ (List.mem_append_left _ (List.mem_append_right _ h9))) | decide +kernel
  have inX6 : ∀ w ∈ u_ws RX6 TX6 3, w ∈ wsX6_readRules := by first | exact fun w h9 => (List.mem_cons_of_mem _ (List.mem_append_left _ (List.mem_append_left _ (List.mem_append_right _ h9)))) | decide +kernel
  have inX7 : ∀ w ∈ u_ws RX7 TX7 5, w ∈ wsX6_readRules := by first | exact fun w h9 => (List.mem_cons_of_mem _ (List.mem_append_left _ (List.mem_append_left _ (List.mem_append_left _ (List.mem_append_right _ h9))))) | decide +kernel
  intro n0
  induction n0 with
  | zero =>
    intro k fk fq kd sa nu be sz_ r1 r2 r3 r4 H locs ls hn0
    exact absurd hn0 (Nat.not_lt_zero _)
  | succ n0 ih =>
    intro k fk fq kd sa nu be sz_ r1 r2 r3 r4 H locs ls hn0 hk hP hD hS hl
    refine lv_iload_n hx hb dX6_readRules_11 rfl (lv_at hl 2 rfl) ?_
    refine lv_sipush (v := 800) hx hb dX6_readRules_12 (by decide) ?_
    refine lv_icmp_gt (tgt := 44) hx hb dX6_readRules_15 (by decide) (fun c_1 => ?_) (fun c_1 => ?_)
    · exact kk fk fq kd sa nu be sz_ r1 r2 r3 r4 _ _ _  (hP.sub [0, 1, 2, 3, 4, 5, 6, 7, 8] rfl) (hD.sub [0, 1, 2, 3, 4, 5, 6, 7, 8] (by decide) rfl) hS (lv_sub hl [0, 1] rfl)
    · have hlt : k ≤ 800 := by
        rcases Nat.lt_or_ge 800 k with q | q
        · exact absurd (show (800 : Int32) < nI k from nI_lt (a := 800) q (by omega)) c_1
        · exact q
      refine lv_aload_n hx hb dX6_readRules_18 rfl (lv_at hl 0 rfl) ?_
      refine va_get (D := E.1) (ci := 6) (v := .ref tk) (C := RX6) (T := TX6) (N := 3) hx hb hts inX6 hown hK hP 0 rfl rfl 0 (by decide) fl23 (fun _ h9 => h9) rfl dX6_readRules_19 ?_
      refine va_get (D := E.1) (ci := 10) (v := .int kd) (C := RX10) (T := TX10) (N := 5) hx hb hts inX10 hown hK hP 1 rfl rfl 1 (by decide) fl35 (fun _ h9 => h9) rfl dX6_readRules_22 ?_
      refine lv_if_eq (tgt := 44) hx hb dX6_readRules_25 (by decide) (fun c_2 => ?_) (fun c_2 => ?_)
      · exact kk fk fq kd sa nu be sz_ r1 r2 r3 r4 _ _ _  (hP.sub [0, 1, 2, 3, 4, 5, 6, 7, 8] rfl) (hD.sub [0, 1, 2, 3, 4, 5, 6, 7, 8] (by decide) rfl) hS (lv_sub hl [0, 1] rfl)
      · refine lv_aload_n hx hb dX6_readRules_28 rfl (lv_at hl 0 rfl) ?_
        refine lv_aload_n hx hb dX6_readRules_29 rfl (lv_at hl 1 rfl) ?_
        have hPc := hP.sub (ws' := [(h0, .inr (6, [.ref tk, .int fk, .int fq])), (tk, .inr (10, [.ref tp, .int kd, .int sa, .int nu, .int be])), (tp, .inr (9, [.ref by_, .int le])), (by_, .inl (E.2.1 0, 800, .inl f)), (into, .inr (7, [.ref s1, .ref s2, .ref s3, .ref s4, .int sz_])), (s1, .inl (E.2.1 0, 12, .inl r1)), (s2, .inl (E.2.1 1, 12, .inl r2)), (s3, .inl (E.2.1 0, 12, .inl r3)), (s4, .inl (E.2.1 0, 12, .inl r4))]) [0, 1, 2, 3, 4, 5, 6, 7, 8] rfl
        have hDc := hD.sub (ws' := [(h0, .inr (6, [.ref tk, .int fk, .int fq])), (tk, .inr (10, [.ref tp, .int kd, .int sa, .int nu, .int be])), (tp, .inr (9, [.ref by_, .int le])), (by_, .inl (E.2.1 0, 800, .inl f)), (into, .inr (7, [.ref s1, .ref s2, .ref s3, .ref s4, .int sz_])), (s1, .inl (E.2.1 0, 12, .inl r1)), (s2, .inl (E.2.1 1, 12, .inl r2)), (s3, .inl (E.2.1 0, 12, .inl r3)), (s4, .inl (E.2.1 0, 12, .inl r4))]) [0, 1, 2, 3, 4, 5, 6, 7, 8] (by decide) rfl
        have hFc := va_free (wc := [(h0, .inr (6, [.ref tk, .int fk, .int fq])), (tk, .inr (10, [.ref tp, .int kd, .int sa, .int nu, .int be])), (tp, .inr (9, [.ref by_, .int le])), (by_, .inl (E.2.1 0, 800, .inl f)), (into, .inr (7, [.ref s1, .ref s2, .ref s3, .ref s4, .int sz_])), (s1, .inl (E.2.1 0, 12, .inl r1)), (s2, .inl (E.2.1 1, 12, .inl r2)), (s3, .inl (E.2.1 0, 12, .inl r3)), (s4, .inl (E.2.1 0, 12, .inl r4))]) hD hS hA [0, 1, 2, 3, 4, 5, 6, 7, 8] rfl
        refine va_calli (va_runV (As := [.ref into]) (rest := []) ⟨hx, hb, hml, hown, hts⟩ (c_X6_readRule l E h0 tk tp by_ fk fq kd sa nu be le f into s1 s2 s3 s4 sz_ r1 r2 r3 r4 H.size ) (cwV 1 hts gX6_readRules_X6_readRule rfl rfl rfl hdV_X6_readRule ⟨Nat.le_of_ble_eq_true rfl, Nat.le_of_ble_eq_true rfl⟩) ⟨pcW_blind, va_recv hK hPc (ci := 6) (q0 := 0) rfl rfl, (pcW_pre hPc hkn hDc hst hS hFc)⟩ rfl rfl hl.1 rfl (lv_room (Nat.le_of_ble_eq_true rfl)) dX6_readRules_30 ⟨Nat.le_of_ble_eq_true rfl, Nat.le_of_ble_eq_true rfl⟩) hS (fun q _ h => hFc q h) hFc (fun r_3 u t H1 locs ht hvm hw_4 hB hz1 hk1 hS => ?_)
        obtain ⟨u_5, u_6, u_7, u_8, u_9, u_10, u_11, u_12, u_13, u_14, u_15⟩ := u
        obtain ⟨hP1, hD1⟩ := hB
        rw [ht] at hP1
        try dsimp only at hw_4
        obtain ⟨hP, hD⟩ := va_join (wr := []) (w1 := [(h0, .inr (6, [.ref tk, .int u_5, .int u_6])), (tk, .inr (10, [.ref tp, .int u_7, .int u_8, .int u_9, .int u_10])), (tp, .inr (9, [.ref by_, .int le])), (by_, .inl (E.2.1 0, 800, .inl f)), (into, .inr (7, [.ref s1, .ref s2, .ref s3, .ref s4, .int u_11])), (s1, .inl (E.2.1 0, 12, .inl u_12)), (s2, .inl (E.2.1 1, 12, .inl u_13)), (s3, .inl (E.2.1 0, 12, .inl u_14)), (s4, .inl (E.2.1 0, 12, .inl u_15))]) hP hD [0, 1, 2, 3, 4, 5, 6, 7, 8] [] rfl rfl (by decide) (by decide) hk1 hFc hP1 hD1
        generalize H1 = H at hP hS ⊢
        have hP : va_P E.1 vwCl [(h0, .inr (6, [.ref tk, .int u_5, .int u_6])), (tk, .inr (10, [.ref tp, .int u_7, .int u_8, .int u_9, .int u_10])), (tp, .inr (9, [.ref by_, .int le])), (by_, .inl (E.2.1 0, 800, .inl f)), (into, .inr (7, [.ref s1, .ref s2, .ref s3, .ref s4, .int u_11])), (s1, .inl (E.2.1 0, 12, .inl u_12)), (s2, .inl (E.2.1 1, 12, .inl u_13)), (s3, .inl (E.2.1 0, 12, .inl u_14)), (s4, .inl (E.2.1 0, 12, .inl u_15))] H := hP
        have hD : va_D A [(h0, .inr (6, [.ref tk, .int u_5, .int u_6])), (tk, .inr (10, [.ref tp, .int u_7, .int u_8, .int u_9, .int u_10])), (tp, .inr (9, [.ref by_, .int le])), (by_, .inl (E.2.1 0, 800, .inl f)), (into, .inr (7, [.ref s1, .ref s2, .ref s3, .ref s4, .int u_11])), (s1, .inl (E.2.1 0, 12, .inl u_12)), (s2, .inl (E.2.1 1, 12, .inl u_13)), (s3, .inl (E.2.1 0, 12, .inl u_14)), (s4, .inl (E.2.1 0, 12, .inl u_15))] := hD
        refine lv_if_ne (tgt := 38) hx hb dX6_readRules_33 (by decide) (fun c_16 => ?_) (fun c_16 => ?_)
        · refine lv_iinc (v := (nI (k + 1))) (lv' := [(2, .int (nI (k + 1))), (0, .ref h0), (1, .ref into)]) hx hb dX6_readRules_38 hl (k := 2) rfl (show nI k + 1 = nI (k + 1) from nI_1 k) (by decide) rfl (fun ls hl => ?_)
          refine lv_goto (tgt := 11) hx hb dX6_readRules_41 (by decide) ?_
          exact ih (k + 1) u_5 u_6 u_7 u_8 u_9 u_10 u_11 u_12 u_13 u_14 u_15 _ _ _ (by omega) (by omega) (hP.sub [0, 1, 2, 3, 4, 5, 6, 7, 8] rfl) (hD.sub [0, 1, 2, 3, 4, 5, 6, 7, 8] (by decide) rfl) hS (lv_sub hl [1, 2, 0] rfl)
        · exact kk2 u_5 u_6 u_7 u_8 u_9 u_10 u_11 u_12 u_13 u_14 u_15 _ _ _  (hP.sub [0, 1, 2, 3, 4, 5, 6, 7, 8] rfl) (hD.sub [0, 1, 2, 3, 4, 5, 6, 7, 8] (by decide) rfl) hS (lv_sub hl [0, 1] rfl)
set_option maxHeartbeats 4000000 in
set_option maxRecDepth 100000 in
theorem c_X6_readRules (l : Launch) (E : vE) (h0 : Nat) (tk : Nat) (tp : Nat) (by_ : Nat) (fk : Int32) (fq : Int32) (kd : Int32) (sa : Int32) (nu : Int32) (be : Int32) (le : Int32) (f : Nat → Int32) (into : Nat) (s1 : Nat) (s2 : Nat) (s3 : Nat) (s4 : Nat) (sz_ : Int32) (r1 : Nat → Int32) (r2 : Nat → Int32) (r3 : Nat → Int32) (r4 : Nat → Int32) (sz : Nat) : Met l yX6_readRules wsX6_readRules ({ frames := 7, cells := 0, slots := 0, locals := 157 }) (pcW E [.ref h0, .ref into] sz [(h0, .inr (6, [.ref tk, .int fk, .int fq])), (tk, .inr (10, [.ref tp, .int kd, .int sa, .int nu, .int be])), (tp, .inr (9, [.ref by_, .int le])), (by_, .inl (E.2.1 0, 800, .inl f)), (into, .inr (7, [.ref s1, .ref s2, .ref s3, .ref s4, .int sz_])), (s1, .inl (E.2.1 0, 12, .inl r1)), (s2, .inl (E.2.1 1, 12, .inl r2)), (s3, .inl (E.2.1 0, 12, .inl r3)), (s4, .inl (E.2.1 0, 12, .inl r4))]) (va_Qi (fun (r : Int32) (u : Int32 × Int32 × Int32 × Int32 × Int32 × Int32 × Int32 × (Nat → Int32) × (Nat → Int32) × (Nat → Int32) × (Nat → Int32)) => match u with | (fk2, fq2, kd2, sa2, nu2, be2, sz2, r12, r22, r32, r42) => r = 0 ∨ r = 1) (fun (u : Int32 × Int32 × Int32 × Int32 × Int32 × Int32 × Int32 × (Nat → Int32) × (Nat → Int32) × (Nat → Int32) × (Nat → Int32)) (t : State) => match u with | (fk2, fq2, kd2, sa2, nu2, be2, sz2, r12, r22, r32, r42) => wB E (va_A [(h0, .inr (6, [.ref tk, .int fk, .int fq])), (tk, .inr (10, [.ref tp, .int kd, .int sa, .int nu, .int be])), (tp, .inr (9, [.ref by_, .int le])), (by_, .inl (E.2.1 0, 800, .inl f)), (into, .inr (7, [.ref s1, .ref s2, .ref s3, .ref s4, .int sz_])), (s1, .inl (E.2.1 0, 12, .inl r1)), (s2, .inl (E.2.1 1, 12, .inl r2)), (s3, .inl (E.2.1 0, 12, .inl r3)), (s4, .inl (E.2.1 0, 12, .inl r4))] sz) [(h0, .inr (6, [.ref tk, .int fk2, .int fq2])), (tk, .inr (10, [.ref tp, .int kd2, .int sa2, .int nu2, .int be2])), (tp, .inr (9, [.ref by_, .int le])), (by_, .inl (E.2.1 0, 800, .inl f)), (into, .inr (7, [.ref s1, .ref s2, .ref s3, .ref s4, .int sz2])), (s1, .inl (E.2.1 0, 12, .inl r12)), (s2, .inl (E.2.1 1, 12, .inl r22)), (s3, .inl (E.2.1 0, 12, .inl r32)), (s4, .inl (E.2.1 0, 12, .inl r42))] t) (va_A [(h0, .inr (6, [.ref tk, .int fk, .int fq])), (tk, .inr (10, [.ref tp, .int kd, .int sa, .int nu, .int be])), (tp, .inr (9, [.ref by_, .int le])), (by_, .inl (E.2.1 0, 800, .inl f)), (into, .inr (7, [.ref s1, .ref s2, .ref s3, .ref s4, .int sz_])), (s1, .inl (E.2.1 0, 12, .inl r1)), (s2, .inl (E.2.1 1, 12, .inl r2)), (s3, .inl (E.2.1 0, 12, .inl r3)), (s4, .inl (E.2.1 0, 12, .inl r4))] sz)) 0 0 (va_A [(h0, .inr (6, [.ref tk, .int fk, .int fq])), (tk, .inr (10, [.ref tp, .int kd, .int sa, .int nu, .int be])), (tp, .inr (9, [.ref by_, .int le])), (by_, .inl (E.2.1 0, 800, .inl f)), (into, .inr (7, [.ref s1, .ref s2, .ref s3, .ref s4, .int sz_])), (s1, .inl (E.2.1 0, 12, .inl r1)), (s2, .inl (E.2.1 1, 12, .inl r2)), (s3, .inl (E.2.1 0, 12, .inl r3)), (s4, .inl (E.2.1 0, 12, .inl r4))] sz) := by
  refine Met.ofW (cc := cX6_readRules) (maxL := 3) (ret := (some .boolean)) (by decide) rfl ?_
  intro p e s m args below meth c s₁ B hml hv
  obtain ⟨rfl, hsz, hP, hkn, hD0, hst⟩ := hv
  have hx := B.exec
  have hb := B.bytes
  have hr := B.returns
  have hts := atoms_spec (ws := wsX6_readRules) B.pre
  have hown : s.vm.findClass RX6 = some m.cls := findClass_of_methodNamed B.named
  have hlocks := B.notSynchronized
  subst hsz
  have hD := hD0.self (sz := s.heap.size)
  have hK := hkn.1
  have hAO := hkn.2.2.1
  generalize hAe : va_A [(h0, .inr (6, [.ref tk, .int fk, .int fq])), (tk, .inr (10, [.ref tp, .int kd, .int sa, .int nu, .int be])), (tp, .inr (9, [.ref by_, .int le])), (by_, .inl (E.2.1 0, 800, .inl f)), (into, .inr (7, [.ref s1, .ref s2, .ref s3, .ref s4, .int sz_])), (s1, .inl (E.2.1 0, 12, .inl r1)), (s2, .inl (E.2.1 1, 12, .inl r2)), (s3, .inl (E.2.1 0, 12, .inl r3)), (s4, .inl (E.2.1 0, 12, .inl r4))] s.heap.size = A at hD hst ⊢
  have hA : ∀ q : Nat, s.heap.size ≤ q → A q := fun q h => by rw [← hAe]; exact Or.inr h
  have hS : va_S A s.heap s.heap [] := va_S.rf
  have hP : va_P E.1 vwCl [(h0, .inr (6, [.ref tk, .int fk, .int fq])), (tk, .inr (10, [.ref tp, .int kd, .int sa, .int nu, .int be])), (tp, .inr (9, [.ref by_, .int le])), (by_, .inl (E.2.1 0, 800, .inl f)), (into, .inr (7, [.ref s1, .ref s2, .ref s3, .ref s4, .int sz_])), (s1, .inl (E.2.1 0, 12, .inl r1)), (s2, .inl (E.2.1 1, 12, .inl r2)), (s3, .inl (E.2.1 0, 12, .inl r3)), (s4, .inl (E.2.1 0, 12, .inl r4))] s.heap := hP
  have hl := lv_entry ([.ref h0, .ref into]) (n := 3) (Nat.le_of_ble_eq_true rfl)
  rw [lg_entry_eq]
  generalize (lg_sl ([.ref h0, .ref into]) ++ List.replicate (3 - (lg_sl ([.ref h0, .ref into])).length) Slot.unset).toArray = ls at hl ⊢
  have hl : lv_has ls 3 [(0, .ref h0), (1, .ref into)] := hl
  have fl23 := hts (.fieldLink RX6 23 "BoatsHome$Reader" "tokens" "LBoatsHome$Tokens;") (by first | exact List.mem_of_getElem? (i := 2) rfl | decide +kernel)
  have fl27 := hts (.fieldLink RX6 27 "BoatsHome$Rules" "size" "I") (by first | exact List.mem_of_getElem? (i := 1) rfl | decide +kernel)
  have fl35 := hts (.fieldLink RX6 35 "BoatsHome$Tokens" "kind" "I") (by first | exact List.mem_of_getElem? (i := 3) rfl | decide +kernel)
  have inX10 : ∀ w ∈ u_ws RX10 TX10 5, w ∈ wsX6_readRules := by first | exact fun w h9 => (List.mem_cons_of_mem _ (List.mem_append_left _ (List.mem_append_right _ h9))) | decide +kernel
  have inX6 : ∀ w ∈ u_ws RX6 TX6 3, w ∈ wsX6_readRules := by first | exact fun w h9 => (List.mem_cons_of_mem _ (List.mem_append_left _ (List.mem_append_left _ (List.mem_append_right _ h9)))) | decide +kernel
  have inX7 : ∀ w ∈ u_ws RX7 TX7 5, w ∈ wsX6_readRules := by first | exact fun w h9 => (List.mem_cons_of_mem _ (List.mem_append_left _ (List.mem_append_left _ (List.mem_append_left _ (List.mem_append_right _ h9))))) | decide +kernel
  refine lv_aload_n hx hb dX6_readRules_0 rfl (lv_at hl 1 rfl) ?_
  refine lv_iconst (v := 0) hx hb dX6_readRules_1 (by decide) ?_
  refine va_put (D := E.1) (ci := 7) (v := .int 0) (ty := .int) (C := RX7) (T := TX7) (N := 5) hx hb hts inX7 tyX7 tyX7_ok nmX7 hown hK hP hD hS 4 rfl rfl 4 (by decide) fl27 (fun _ h9 => h9) rfl (by decide +kernel) rfl rfl (Nat.le_of_ble_eq_true rfl) dX6_readRules_2 (fun H locs hP hD hS => ?_)
  have hP : va_P E.1 vwCl [(h0, .inr (6, [.ref tk, .int fk, .int fq])), (tk, .inr (10, [.ref tp, .int kd, .int sa, .int nu, .int be])), (tp, .inr (9, [.ref by_, .int le])), (by_, .inl (E.2.1 0, 800, .inl f)), (into, .inr (7, [.ref s1, .ref s2, .ref s3, .ref s4, .int 0])), (s1, .inl (E.2.1 0, 12, .inl r1)), (s2, .inl (E.2.1 1, 12, .inl r2)), (s3, .inl (E.2.1 0, 12, .inl r3)), (s4, .inl (E.2.1 0, 12, .inl r4))] H := hP
  have hD : va_D A [(h0, .inr (6, [.ref tk, .int fk, .int fq])), (tk, .inr (10, [.ref tp, .int kd, .int sa, .int nu, .int be])), (tp, .inr (9, [.ref by_, .int le])), (by_, .inl (E.2.1 0, 800, .inl f)), (into, .inr (7, [.ref s1, .ref s2, .ref s3, .ref s4, .int 0])), (s1, .inl (E.2.1 0, 12, .inl r1)), (s2, .inl (E.2.1 1, 12, .inl r2)), (s3, .inl (E.2.1 0, 12, .inl r3)), (s4, .inl (E.2.1 0, 12, .inl r4))] := hD
  refine lv_aload_n hx hb dX6_readRules_5 rfl (lv_at hl 0 rfl) ?_
  have hPc := hP.sub (ws' := [(h0, .inr (6, [.ref tk, .int fk, .int fq])), (tk, .inr (10, [.ref tp, .int kd, .int sa, .int nu, .int be])), (tp, .inr (9, [.ref by_, .int le])), (by_, .inl (E.2.1 0, 800, .inl f))]) [0, 1, 2, 3] rfl
  have hDc := hD.sub (ws' := [(h0, .inr (6, [.ref tk, .int fk, .int fq])), (tk, .inr (10, [.ref tp, .int kd, .int sa, .int nu, .int be])), (tp, .inr (9, [.ref by_, .int le])), (by_, .inl (E.2.1 0, 800, .inl f))]) [0, 1, 2, 3] (by decide) rfl
  have hFc := va_free (wc := [(h0, .inr (6, [.ref tk, .int fk, .int fq])), (tk, .inr (10, [.ref tp, .int kd, .int sa, .int nu, .int be])), (tp, .inr (9, [.ref by_, .int le])), (by_, .inl (E.2.1 0, 800, .inl f))]) hD hS hA [0, 1, 2, 3] rfl
  refine va_callv (va_runV (As := []) (rest := []) ⟨hx, hb, hml, hown, hts⟩ (c_X6_beginText l E h0 tk tp by_ fk fq kd sa nu be le f H.size ) (cwV 0 hts gX6_readRules_X6_beginText rfl rfl rfl hdV_X6_beginText ⟨Nat.le_of_ble_eq_true rfl, Nat.le_of_ble_eq_true rfl⟩) ⟨pcW_blind, va_recv hK hPc (ci := 6) (q0 := 0) rfl rfl, (pcW_pre hPc hkn hDc hst hS hFc)⟩ rfl rfl hl.1 rfl (lv_room (Nat.le_of_ble_eq_true rfl)) dX6_readRules_6 ⟨Nat.le_of_ble_eq_true rfl, Nat.le_of_ble_eq_true rfl⟩) hS (fun q _ h => hFc q h) hFc (fun u t H1 locs ht hvm hw_2 hB hz1 hk1 hS => ?_)
  obtain ⟨u_3, u_4, u_5, u_6, u_7, u_8⟩ := u
  obtain ⟨hP1, hD1⟩ := hB
  rw [ht] at hP1
  try dsimp only at hw_2
  obtain ⟨hP, hD⟩ := va_join (wr := [(into, .inr (7, [.ref s1, .ref s2, .ref s3, .ref s4, .int 0])), (s1, .inl (E.2.1 0, 12, .inl r1)), (s2, .inl (E.2.1 1, 12, .inl r2)), (s3, .inl (E.2.1 0, 12, .inl r3)), (s4, .inl (E.2.1 0, 12, .inl r4))]) (w1 := [(h0, .inr (6, [.ref tk, .int u_3, .int u_4])), (tk, .inr (10, [.ref tp, .int u_5, .int u_6, .int u_7, .int u_8])), (tp, .inr (9, [.ref by_, .int le])), (by_, .inl (E.2.1 0, 800, .inl f))]) hP hD [0, 1, 2, 3] [4, 5, 6, 7, 8] rfl rfl (by decide) (by decide) hk1 hFc hP1 hD1
  generalize H1 = H at hP hS ⊢
  have hP : va_P E.1 vwCl [(into, .inr (7, [.ref s1, .ref s2, .ref s3, .ref s4, .int 0])), (s1, .inl (E.2.1 0, 12, .inl r1)), (s2, .inl (E.2.1 1, 12, .inl r2)), (s3, .inl (E.2.1 0, 12, .inl r3)), (s4, .inl (E.2.1 0, 12, .inl r4)), (h0, .inr (6, [.ref tk, .int u_3, .int u_4])), (tk, .inr (10, [.ref tp, .int u_5, .int u_6, .int u_7, .int u_8])), (tp, .inr (9, [.ref by_, .int le])), (by_, .inl (E.2.1 0, 800, .inl f))] H := hP
  have hD : va_D A [(into, .inr (7, [.ref s1, .ref s2, .ref s3, .ref s4, .int 0])), (s1, .inl (E.2.1 0, 12, .inl r1)), (s2, .inl (E.2.1 1, 12, .inl r2)), (s3, .inl (E.2.1 0, 12, .inl r3)), (s4, .inl (E.2.1 0, 12, .inl r4)), (h0, .inr (6, [.ref tk, .int u_3, .int u_4])), (tk, .inr (10, [.ref tp, .int u_5, .int u_6, .int u_7, .int u_8])), (tp, .inr (9, [.ref by_, .int le])), (by_, .inl (E.2.1 0, 800, .inl f))] := hD
  refine lv_iconst (v := 0) hx hb dX6_readRules_9 (by decide) ?_
  refine lv_istore_n (lv' := [(2, .int 0), (0, .ref h0), (1, .ref into)]) hx hb dX6_readRules_10 rfl hl (by decide) rfl (fun ls hl => ?_)
  have hPl := hP.sub (ws' := [(h0, .inr (6, [.ref tk, .int u_3, .int u_4])), (tk, .inr (10, [.ref tp, .int u_5, .int u_6, .int u_7, .int u_8])), (tp, .inr (9, [.ref by_, .int le])), (by_, .inl (E.2.1 0, 800, .inl f)), (into, .inr (7, [.ref s1, .ref s2, .ref s3, .ref s4, .int 0])), (s1, .inl (E.2.1 0, 12, .inl r1)), (s2, .inl (E.2.1 1, 12, .inl r2)), (s3, .inl (E.2.1 0, 12, .inl r3)), (s4, .inl (E.2.1 0, 12, .inl r4))]) [5, 6, 7, 8, 0, 1, 2, 3, 4] rfl
  have hDl := hD.sub (ws' := [(h0, .inr (6, [.ref tk, .int u_3, .int u_4])), (tk, .inr (10, [.ref tp, .int u_5, .int u_6, .int u_7, .int u_8])), (tp, .inr (9, [.ref by_, .int le])), (by_, .inl (E.2.1 0, 800, .inl f)), (into, .inr (7, [.ref s1, .ref s2, .ref s3, .ref s4, .int 0])), (s1, .inl (E.2.1 0, 12, .inl r1)), (s2, .inl (E.2.1 1, 12, .inl r2)), (s3, .inl (E.2.1 0, 12, .inl r3)), (s4, .inl (E.2.1 0, 12, .inl r4))]) [5, 6, 7, 8, 0, 1, 2, 3, 4] (by decide) rfl
  refine lg_rules E h0 tk tp by_ le f into s1 s2 s3 s4 hx hb hml hown hts hkn hst hA  (fun n_9 n_10 n_11 n_12 n_13 n_14 n_15 n_16 n_17 n_18 n_19 H locs ls  hP hD hS hl => ?_) (fun w_20 w_21 w_22 w_23 w_24 w_25 w_26 w_27 w_28 w_29 w_30 H locs ls  hP hD hS hl => ?_) 802 0 u_3 u_4 u_5 u_6 u_7 u_8 0 r1 r2 r3 r4 _ _ _ (by omega) (by omega) hPl hDl hS (lv_sub hl [1, 2, 0] rfl)
  · have hP : va_P E.1 vwCl [(h0, .inr (6, [.ref tk, .int n_9, .int n_10])), (tk, .inr (10, [.ref tp, .int n_11, .int n_12, .int n_13, .int n_14])), (tp, .inr (9, [.ref by_, .int le])), (by_, .inl (E.2.1 0, 800, .inl f)), (into, .inr (7, [.ref s1, .ref s2, .ref s3, .ref s4, .int n_15])), (s1, .inl (E.2.1 0, 12, .inl n_16)), (s2, .inl (E.2.1 1, 12, .inl n_17)), (s3, .inl (E.2.1 0, 12, .inl n_18)), (s4, .inl (E.2.1 0, 12, .inl n_19))] H := hP
    have hD : va_D A [(h0, .inr (6, [.ref tk, .int n_9, .int n_10])), (tk, .inr (10, [.ref tp, .int n_11, .int n_12, .int n_13, .int n_14])), (tp, .inr (9, [.ref by_, .int le])), (by_, .inl (E.2.1 0, 800, .inl f)), (into, .inr (7, [.ref s1, .ref s2, .ref s3, .ref s4, .int n_15])), (s1, .inl (E.2.1 0, 12, .inl n_16)), (s2, .inl (E.2.1 1, 12, .inl n_17)), (s3, .inl (E.2.1 0, 12, .inl n_18)), (s4, .inl (E.2.1 0, 12, .inl n_19))] := hD
    refine lv_iconst (v := 1) hx hb dX6_readRules_44 (by decide) ?_
    have hP9 := hP.sub (ws' := [(h0, .inr (6, [.ref tk, .int n_9, .int n_10])), (tk, .inr (10, [.ref tp, .int n_11, .int n_12, .int n_13, .int n_14])), (tp, .inr (9, [.ref by_, .int le])), (by_, .inl (E.2.1 0, 800, .inl f)), (into, .inr (7, [.ref s1, .ref s2, .ref s3, .ref s4, .int n_15])), (s1, .inl (E.2.1 0, 12, .inl n_16)), (s2, .inl (E.2.1 1, 12, .inl n_17)), (s3, .inl (E.2.1 0, 12, .inl n_18)), (s4, .inl (E.2.1 0, 12, .inl n_19))]) [0, 1, 2, 3, 4, 5, 6, 7, 8] rfl
    have hD9 := hD.sub (ws' := [(h0, .inr (6, [.ref tk, .int n_9, .int n_10])), (tk, .inr (10, [.ref tp, .int n_11, .int n_12, .int n_13, .int n_14])), (tp, .inr (9, [.ref by_, .int le])), (by_, .inl (E.2.1 0, 800, .inl f)), (into, .inr (7, [.ref s1, .ref s2, .ref s3, .ref s4, .int n_15])), (s1, .inl (E.2.1 0, 12, .inl n_16)), (s2, .inl (E.2.1 1, 12, .inl n_17)), (s3, .inl (E.2.1 0, 12, .inl n_18)), (s4, .inl (E.2.1 0, 12, .inl n_19))]) [0, 1, 2, 3, 4, 5, 6, 7, 8] (by decide) rfl
    exact W.zret (v := 1) hx hb hr (by decide) (fun t ht hW => ⟨⟨1, (n_9, n_10, n_11, n_12, n_13, n_14, n_15, n_16, n_17, n_18, n_19), rfl, Or.inr rfl, by rw [ht]; exact hP9, hD9⟩, hS.F ht⟩) hS.2.2 dX6_readRules_45
  · have hP : va_P E.1 vwCl [(h0, .inr (6, [.ref tk, .int w_20, .int w_21])), (tk, .inr (10, [.ref tp, .int w_22, .int w_23, .int w_24, .int w_25])), (tp, .inr (9, [.ref by_, .int le])), (by_, .inl (E.2.1 0, 800, .inl f)), (into, .inr (7, [.ref s1, .ref s2, .ref s3, .ref s4, .int w_26])), (s1, .inl (E.2.1 0, 12, .inl w_27)), (s2, .inl (E.2.1 1, 12, .inl w_28)), (s3, .inl (E.2.1 0, 12, .inl w_29)), (s4, .inl (E.2.1 0, 12, .inl w_30))] H := hP
    have hD : va_D A [(h0, .inr (6, [.ref tk, .int w_20, .int w_21])), (tk, .inr (10, [.ref tp, .int w_22, .int w_23, .int w_24, .int w_25])), (tp, .inr (9, [.ref by_, .int le])), (by_, .inl (E.2.1 0, 800, .inl f)), (into, .inr (7, [.ref s1, .ref s2, .ref s3, .ref s4, .int w_26])), (s1, .inl (E.2.1 0, 12, .inl w_27)), (s2, .inl (E.2.1 1, 12, .inl w_28)), (s3, .inl (E.2.1 0, 12, .inl w_29)), (s4, .inl (E.2.1 0, 12, .inl w_30))] := hD
    refine lv_iconst (v := 0) hx hb dX6_readRules_36 (by decide) ?_
    have hP9 := hP.sub (ws' := [(h0, .inr (6, [.ref tk, .int w_20, .int w_21])), (tk, .inr (10, [.ref tp, .int w_22, .int w_23, .int w_24, .int w_25])), (tp, .inr (9, [.ref by_, .int le])), (by_, .inl (E.2.1 0, 800, .inl f)), (into, .inr (7, [.ref s1, .ref s2, .ref s3, .ref s4, .int w_26])), (s1, .inl (E.2.1 0, 12, .inl w_27)), (s2, .inl (E.2.1 1, 12, .inl w_28)), (s3, .inl (E.2.1 0, 12, .inl w_29)), (s4, .inl (E.2.1 0, 12, .inl w_30))]) [0, 1, 2, 3, 4, 5, 6, 7, 8] rfl
    have hD9 := hD.sub (ws' := [(h0, .inr (6, [.ref tk, .int w_20, .int w_21])), (tk, .inr (10, [.ref tp, .int w_22, .int w_23, .int w_24, .int w_25])), (tp, .inr (9, [.ref by_, .int le])), (by_, .inl (E.2.1 0, 800, .inl f)), (into, .inr (7, [.ref s1, .ref s2, .ref s3, .ref s4, .int w_26])), (s1, .inl (E.2.1 0, 12, .inl w_27)), (s2, .inl (E.2.1 1, 12, .inl w_28)), (s3, .inl (E.2.1 0, 12, .inl w_29)), (s4, .inl (E.2.1 0, 12, .inl w_30))]) [0, 1, 2, 3, 4, 5, 6, 7, 8] (by decide) rfl
    exact W.zret (v := 0) hx hb hr (by decide) (fun t ht hW => ⟨⟨0, (w_20, w_21, w_22, w_23, w_24, w_25, w_26, w_27, w_28, w_29, w_30), rfl, Or.inl rfl, by rw [ht]; exact hP9, hD9⟩, hS.F ht⟩) hS.2.2 dX6_readRules_37
