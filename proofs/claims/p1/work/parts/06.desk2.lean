set_option maxHeartbeats 4000000 in
set_option maxRecDepth 100000 in
theorem c_X9_append (l : Launch) (E : vE) (h0 : Nat) (by_ : Nat) (ln : Nat) (four : Int32) (f : Nat → Int32) (sz : Nat) (hln : ln + 4 ≤ 800) : Met l yX9_append wsX9_append ({ frames := 0, cells := 0, slots := 0, locals := 0 }) (pcW E [.ref h0, .int four] sz [(h0, .inr (9, [.ref by_, .int (nI ln)])), (by_, .inl (E.2 0, 800, .inl f))]) (va_Qv (fun (f2 : (Nat → Int32)) => True) (fun (f2 : (Nat → Int32)) (t : State) => wB E (va_A [(h0, .inr (9, [.ref by_, .int (nI ln)])), (by_, .inl (E.2 0, 800, .inl f))] sz) [(h0, .inr (9, [.ref by_, .int (nI (ln + 4))])), (by_, .inl (E.2 0, 800, .inl f2))] t) (va_A [(h0, .inr (9, [.ref by_, .int (nI ln)])), (by_, .inl (E.2 0, 800, .inl f))] sz)) 0 0 (va_A [(h0, .inr (9, [.ref by_, .int (nI ln)])), (by_, .inl (E.2 0, 800, .inl f))] sz) := by
  refine Met.ofW (cc := cX9_append) (maxL := 3) (ret := none) (by decide) rfl ?_
  intro p e s m args below meth c s₁ B hml hv
  obtain ⟨rfl, hsz, hP, hkn, hD0, hst⟩ := hv
  have hx := B.exec
  have hb := B.bytes
  have hr := B.returns
  have hts := atoms_spec (ws := wsX9_append) B.pre
  have hown : s.vm.findClass RX9 = some m.cls := findClass_of_methodNamed B.named
  have hlocks := B.notSynchronized
  subst hsz
  have hD := hD0.self (sz := s.heap.size)
  have hK := hkn.1
  have hAO := hkn.2.2
  generalize hAe : va_A [(h0, .inr (9, [.ref by_, .int (nI ln)])), (by_, .inl (E.2 0, 800, .inl f))] s.heap.size = A at hD hst ⊢
  have hA : ∀ q : Nat, s.heap.size ≤ q → A q := fun q h => by rw [← hAe]; exact Or.inr h
  have hS : va_S A s.heap s.heap [] := va_S.rf
  have hP : va_P E.1 vwCl [(h0, .inr (9, [.ref by_, .int (nI ln)])), (by_, .inl (E.2 0, 800, .inl f))] s.heap := hP
  have hl := lv_entry ([.ref h0, .int four]) (n := 3) (Nat.le_of_ble_eq_true rfl)
  rw [lg_entry_eq]
  generalize (lg_sl ([.ref h0, .int four]) ++ List.replicate (3 - (lg_sl ([.ref h0, .int four])).length) Slot.unset).toArray = ls at hl ⊢
  have hl : lv_has ls 3 [(0, .ref h0), (1, .int four)] := hl
  have fl9 := hts (.fieldLink RX9 9 "BoatsHome$Tape" "bytes" "[I") (by decide +kernel)
  have fl15 := hts (.fieldLink RX9 15 "BoatsHome$Tape" "length" "I") (by decide +kernel)
  have inX9 : ∀ w ∈ u_ws RX9 TX9 2, w ∈ wsX9_append := by decide +kernel
  refine lv_bipush (v := 24) hx hb dX9_append_0 (by decide) ?_
  refine lv_istore_n (lv' := [(2, .int 24), (0, .ref h0), (1, .int four)]) hx hb dX9_append_2 rfl hl (by decide) rfl (fun ls hl => ?_)
  refine lv_iload_n hx hb dX9_append_3 rfl (lv_at hl 0 rfl) ?_
  refine lv_if_lt (tgt := 49) hx hb dX9_append_4 (by decide) (fun c9 => absurd c9 (by decide)) (fun _ => ?_)
  refine lv_aload_n hx hb dX9_append_7 rfl (lv_at hl 1 rfl) ?_
  refine va_get (D := E.1) (ci := 9) (v := .int (nI ln)) (C := RX9) (T := TX9) (N := 2) hx hb hts inX9 hown hK hP 0 rfl rfl 1 (by decide) fl15 (fun _ h9 => h9) rfl dX9_append_8 ?_
  refine lv_sipush (v := 800) hx hb dX9_append_11 (by decide) ?_
  refine lv_icmp_ge (tgt := 49) hx hb dX9_append_14 (by decide) (fun c9 => absurd c9 (nI_ge (b := 800) (by omega) (by decide))) (fun c9 => ?_)
  refine lv_aload_n hx hb dX9_append_17 rfl (lv_at hl 1 rfl) ?_
  refine va_get (D := E.1) (ci := 9) (v := .ref by_) (C := RX9) (T := TX9) (N := 2) hx hb hts inX9 hown hK hP 0 rfl rfl 0 (by decide) fl9 (fun _ h9 => h9) rfl dX9_append_18 ?_
  refine lv_aload_n hx hb dX9_append_21 rfl (lv_at hl 1 rfl) ?_
  refine va_get (D := E.1) (ci := 9) (v := .int (nI ln)) (C := RX9) (T := TX9) (N := 2) hx hb hts inX9 hown hK hP 0 rfl rfl 1 (by decide) fl15 (fun _ h9 => h9) rfl dX9_append_22 ?_
  refine lv_iload_n hx hb dX9_append_25 rfl (lv_at hl 2 rfl) ?_
  refine lv_iload_n hx hb dX9_append_26 rfl (lv_at hl 0 rfl) ?_
  refine lv_iushr hx hb dX9_append_27 rfl ?_
  refine lv_topi (fun x1 ex1 => ?_)
  refine lv_sipush (v := 255) hx hb dX9_append_28 (by decide) ?_
  refine lv_iand hx hb dX9_append_31 ?_
  refine lv_topi (fun x2 ex2 => ?_)
  have hi3 : vp_in (nI ln) 800 := vp_in_nI (by omega) (by decide)
  refine va_iast hx hb hK hP hD hS 1 0 rfl rfl hi3 dX9_append_32 (fun H locs hP hD hS => ?_)
  have hP : va_P E.1 vwCl [(h0, .inr (9, [.ref by_, .int (nI ln)])), (by_, .inl (E.2 0, 800, .inl (upd f (nI ln).toNatClampNeg x2)))] H := hP
  have hD : va_D A [(h0, .inr (9, [.ref by_, .int (nI ln)])), (by_, .inl (E.2 0, 800, .inl (upd f (nI ln).toNatClampNeg x2)))] := hD
  obtain ⟨f4, ef4⟩ : ∃ g : Nat → Int32, g = upd f (nI ln).toNatClampNeg x2 := ⟨_, rfl⟩
  rw [← ef4] at hP hD
  refine lv_aload_n hx hb dX9_append_33 rfl (lv_at hl 1 rfl) ?_
  refine lv_dup hx hb dX9_append_34 rfl ?_
  refine va_get (D := E.1) (ci := 9) (v := .int (nI ln)) (C := RX9) (T := TX9) (N := 2) hx hb hts inX9 hown hK hP 0 rfl rfl 1 (by decide) fl15 (fun _ h9 => h9) rfl dX9_append_35 ?_
  refine lv_iconst (v := 1) hx hb dX9_append_38 (by decide) ?_
  refine lv_iadd hx hb dX9_append_39 ?_
  refine lv_topi (fun x5 ex5 => ?_)
  obtain rfl : x5 = nI (ln + 1) := ex5.trans (nI_1 _)
  refine va_put (D := E.1) (ci := 9) (v := .int (nI (ln + 1))) (ty := .int) (C := RX9) (T := TX9) (N := 2) hx hb hts inX9 tyX9 tyX9_ok nmX9 hown hK hP hD hS 0 rfl rfl 1 (by decide) fl15 (fun _ h9 => h9) rfl (by decide +kernel) rfl rfl (Nat.le_of_ble_eq_true rfl) dX9_append_40 (fun H locs hP hD hS => ?_)
  have hP : va_P E.1 vwCl [(h0, .inr (9, [.ref by_, .int (nI (ln + 1))])), (by_, .inl (E.2 0, 800, .inl f4))] H := hP
  have hD : va_D A [(h0, .inr (9, [.ref by_, .int (nI (ln + 1))])), (by_, .inl (E.2 0, 800, .inl f4))] := hD
  refine lv_iinc (v := 16) (lv' := [(2, .int 16), (0, .ref h0), (1, .int four)]) hx hb dX9_append_43 hl (k := 0) rfl (by decide) (by decide) rfl (fun ls hl => ?_)
  refine lv_goto (tgt := 3) hx hb dX9_append_46 (by decide) ?_
  refine lv_iload_n hx hb dX9_append_3 rfl (lv_at hl 0 rfl) ?_
  refine lv_if_lt (tgt := 49) hx hb dX9_append_4 (by decide) (fun c9 => absurd c9 (by decide)) (fun _ => ?_)
  refine lv_aload_n hx hb dX9_append_7 rfl (lv_at hl 1 rfl) ?_
  refine va_get (D := E.1) (ci := 9) (v := .int (nI (ln + 1))) (C := RX9) (T := TX9) (N := 2) hx hb hts inX9 hown hK hP 0 rfl rfl 1 (by decide) fl15 (fun _ h9 => h9) rfl dX9_append_8 ?_
  refine lv_sipush (v := 800) hx hb dX9_append_11 (by decide) ?_
  refine lv_icmp_ge (tgt := 49) hx hb dX9_append_14 (by decide) (fun c9 => absurd c9 (nI_ge (b := 800) (by omega) (by decide))) (fun c9 => ?_)
  refine lv_aload_n hx hb dX9_append_17 rfl (lv_at hl 1 rfl) ?_
  refine va_get (D := E.1) (ci := 9) (v := .ref by_) (C := RX9) (T := TX9) (N := 2) hx hb hts inX9 hown hK hP 0 rfl rfl 0 (by decide) fl9 (fun _ h9 => h9) rfl dX9_append_18 ?_
  refine lv_aload_n hx hb dX9_append_21 rfl (lv_at hl 1 rfl) ?_
  refine va_get (D := E.1) (ci := 9) (v := .int (nI (ln + 1))) (C := RX9) (T := TX9) (N := 2) hx hb hts inX9 hown hK hP 0 rfl rfl 1 (by decide) fl15 (fun _ h9 => h9) rfl dX9_append_22 ?_
  refine lv_iload_n hx hb dX9_append_25 rfl (lv_at hl 2 rfl) ?_
  refine lv_iload_n hx hb dX9_append_26 rfl (lv_at hl 0 rfl) ?_
  refine lv_iushr hx hb dX9_append_27 rfl ?_
  refine lv_topi (fun x6 ex6 => ?_)
  refine lv_sipush (v := 255) hx hb dX9_append_28 (by decide) ?_
  refine lv_iand hx hb dX9_append_31 ?_
  refine lv_topi (fun x7 ex7 => ?_)
  have hi8 : vp_in (nI (ln + 1)) 800 := vp_in_nI (by omega) (by decide)
  refine va_iast hx hb hK hP hD hS 1 0 rfl rfl hi8 dX9_append_32 (fun H locs hP hD hS => ?_)
  have hP : va_P E.1 vwCl [(h0, .inr (9, [.ref by_, .int (nI (ln + 1))])), (by_, .inl (E.2 0, 800, .inl (upd f4 (nI (ln + 1)).toNatClampNeg x7)))] H := hP
  have hD : va_D A [(h0, .inr (9, [.ref by_, .int (nI (ln + 1))])), (by_, .inl (E.2 0, 800, .inl (upd f4 (nI (ln + 1)).toNatClampNeg x7)))] := hD
  obtain ⟨f9, ef9⟩ : ∃ g : Nat → Int32, g = upd f4 (nI (ln + 1)).toNatClampNeg x7 := ⟨_, rfl⟩
  rw [← ef9] at hP hD
  refine lv_aload_n hx hb dX9_append_33 rfl (lv_at hl 1 rfl) ?_
  refine lv_dup hx hb dX9_append_34 rfl ?_
  refine va_get (D := E.1) (ci := 9) (v := .int (nI (ln + 1))) (C := RX9) (T := TX9) (N := 2) hx hb hts inX9 hown hK hP 0 rfl rfl 1 (by decide) fl15 (fun _ h9 => h9) rfl dX9_append_35 ?_
  refine lv_iconst (v := 1) hx hb dX9_append_38 (by decide) ?_
  refine lv_iadd hx hb dX9_append_39 ?_
  refine lv_topi (fun x10 ex10 => ?_)
  obtain rfl : x10 = nI ((ln + 1) + 1) := ex10.trans (nI_1 _)
  refine va_put (D := E.1) (ci := 9) (v := .int (nI ((ln + 1) + 1))) (ty := .int) (C := RX9) (T := TX9) (N := 2) hx hb hts inX9 tyX9 tyX9_ok nmX9 hown hK hP hD hS 0 rfl rfl 1 (by decide) fl15 (fun _ h9 => h9) rfl (by decide +kernel) rfl rfl (Nat.le_of_ble_eq_true rfl) dX9_append_40 (fun H locs hP hD hS => ?_)
  have hP : va_P E.1 vwCl [(h0, .inr (9, [.ref by_, .int (nI ((ln + 1) + 1))])), (by_, .inl (E.2 0, 800, .inl f9))] H := hP
  have hD : va_D A [(h0, .inr (9, [.ref by_, .int (nI ((ln + 1) + 1))])), (by_, .inl (E.2 0, 800, .inl f9))] := hD
  refine lv_iinc (v := 8) (lv' := [(2, .int 8), (0, .ref h0), (1, .int four)]) hx hb dX9_append_43 hl (k := 0) rfl (by decide) (by decide) rfl (fun ls hl => ?_)
  refine lv_goto (tgt := 3) hx hb dX9_append_46 (by decide) ?_
  refine lv_iload_n hx hb dX9_append_3 rfl (lv_at hl 0 rfl) ?_
  refine lv_if_lt (tgt := 49) hx hb dX9_append_4 (by decide) (fun c9 => absurd c9 (by decide)) (fun _ => ?_)
  refine lv_aload_n hx hb dX9_append_7 rfl (lv_at hl 1 rfl) ?_
  refine va_get (D := E.1) (ci := 9) (v := .int (nI ((ln + 1) + 1))) (C := RX9) (T := TX9) (N := 2) hx hb hts inX9 hown hK hP 0 rfl rfl 1 (by decide) fl15 (fun _ h9 => h9) rfl dX9_append_8 ?_
  refine lv_sipush (v := 800) hx hb dX9_append_11 (by decide) ?_
  refine lv_icmp_ge (tgt := 49) hx hb dX9_append_14 (by decide) (fun c9 => absurd c9 (nI_ge (b := 800) (by omega) (by decide))) (fun c9 => ?_)
  refine lv_aload_n hx hb dX9_append_17 rfl (lv_at hl 1 rfl) ?_
  refine va_get (D := E.1) (ci := 9) (v := .ref by_) (C := RX9) (T := TX9) (N := 2) hx hb hts inX9 hown hK hP 0 rfl rfl 0 (by decide) fl9 (fun _ h9 => h9) rfl dX9_append_18 ?_
  refine lv_aload_n hx hb dX9_append_21 rfl (lv_at hl 1 rfl) ?_
  refine va_get (D := E.1) (ci := 9) (v := .int (nI ((ln + 1) + 1))) (C := RX9) (T := TX9) (N := 2) hx hb hts inX9 hown hK hP 0 rfl rfl 1 (by decide) fl15 (fun _ h9 => h9) rfl dX9_append_22 ?_
  refine lv_iload_n hx hb dX9_append_25 rfl (lv_at hl 2 rfl) ?_
  refine lv_iload_n hx hb dX9_append_26 rfl (lv_at hl 0 rfl) ?_
  refine lv_iushr hx hb dX9_append_27 rfl ?_
  refine lv_topi (fun x11 ex11 => ?_)
  refine lv_sipush (v := 255) hx hb dX9_append_28 (by decide) ?_
  refine lv_iand hx hb dX9_append_31 ?_
  refine lv_topi (fun x12 ex12 => ?_)
  have hi13 : vp_in (nI ((ln + 1) + 1)) 800 := vp_in_nI (by omega) (by decide)
  refine va_iast hx hb hK hP hD hS 1 0 rfl rfl hi13 dX9_append_32 (fun H locs hP hD hS => ?_)
  have hP : va_P E.1 vwCl [(h0, .inr (9, [.ref by_, .int (nI ((ln + 1) + 1))])), (by_, .inl (E.2 0, 800, .inl (upd f9 (nI ((ln + 1) + 1)).toNatClampNeg x12)))] H := hP
  have hD : va_D A [(h0, .inr (9, [.ref by_, .int (nI ((ln + 1) + 1))])), (by_, .inl (E.2 0, 800, .inl (upd f9 (nI ((ln + 1) + 1)).toNatClampNeg x12)))] := hD
  obtain ⟨f14, ef14⟩ : ∃ g : Nat → Int32, g = upd f9 (nI ((ln + 1) + 1)).toNatClampNeg x12 := ⟨_, rfl⟩
  rw [← ef14] at hP hD
  refine lv_aload_n hx hb dX9_append_33 rfl (lv_at hl 1 rfl) ?_
  refine lv_dup hx hb dX9_append_34 rfl ?_
  refine va_get (D := E.1) (ci := 9) (v := .int (nI ((ln + 1) + 1))) (C := RX9) (T := TX9) (N := 2) hx hb hts inX9 hown hK hP 0 rfl rfl 1 (by decide) fl15 (fun _ h9 => h9) rfl dX9_append_35 ?_
  refine lv_iconst (v := 1) hx hb dX9_append_38 (by decide) ?_
  refine lv_iadd hx hb dX9_append_39 ?_
  refine lv_topi (fun x15 ex15 => ?_)
  obtain rfl : x15 = nI (((ln + 1) + 1) + 1) := ex15.trans (nI_1 _)
  refine va_put (D := E.1) (ci := 9) (v := .int (nI (((ln + 1) + 1) + 1))) (ty := .int) (C := RX9) (T := TX9) (N := 2) hx hb hts inX9 tyX9 tyX9_ok nmX9 hown hK hP hD hS 0 rfl rfl 1 (by decide) fl15 (fun _ h9 => h9) rfl (by decide +kernel) rfl rfl (Nat.le_of_ble_eq_true rfl) dX9_append_40 (fun H locs hP hD hS => ?_)
  have hP : va_P E.1 vwCl [(h0, .inr (9, [.ref by_, .int (nI (((ln + 1) + 1) + 1))])), (by_, .inl (E.2 0, 800, .inl f14))] H := hP
  have hD : va_D A [(h0, .inr (9, [.ref by_, .int (nI (((ln + 1) + 1) + 1))])), (by_, .inl (E.2 0, 800, .inl f14))] := hD
  refine lv_iinc (v := 0) (lv' := [(2, .int 0), (0, .ref h0), (1, .int four)]) hx hb dX9_append_43 hl (k := 0) rfl (by decide) (by decide) rfl (fun ls hl => ?_)
  refine lv_goto (tgt := 3) hx hb dX9_append_46 (by decide) ?_
  refine lv_iload_n hx hb dX9_append_3 rfl (lv_at hl 0 rfl) ?_
  refine lv_if_lt (tgt := 49) hx hb dX9_append_4 (by decide) (fun c9 => absurd c9 (by decide)) (fun _ => ?_)
  refine lv_aload_n hx hb dX9_append_7 rfl (lv_at hl 1 rfl) ?_
  refine va_get (D := E.1) (ci := 9) (v := .int (nI (((ln + 1) + 1) + 1))) (C := RX9) (T := TX9) (N := 2) hx hb hts inX9 hown hK hP 0 rfl rfl 1 (by decide) fl15 (fun _ h9 => h9) rfl dX9_append_8 ?_
  refine lv_sipush (v := 800) hx hb dX9_append_11 (by decide) ?_
  refine lv_icmp_ge (tgt := 49) hx hb dX9_append_14 (by decide) (fun c9 => absurd c9 (nI_ge (b := 800) (by omega) (by decide))) (fun c9 => ?_)
  refine lv_aload_n hx hb dX9_append_17 rfl (lv_at hl 1 rfl) ?_
  refine va_get (D := E.1) (ci := 9) (v := .ref by_) (C := RX9) (T := TX9) (N := 2) hx hb hts inX9 hown hK hP 0 rfl rfl 0 (by decide) fl9 (fun _ h9 => h9) rfl dX9_append_18 ?_
  refine lv_aload_n hx hb dX9_append_21 rfl (lv_at hl 1 rfl) ?_
  refine va_get (D := E.1) (ci := 9) (v := .int (nI (((ln + 1) + 1) + 1))) (C := RX9) (T := TX9) (N := 2) hx hb hts inX9 hown hK hP 0 rfl rfl 1 (by decide) fl15 (fun _ h9 => h9) rfl dX9_append_22 ?_
  refine lv_iload_n hx hb dX9_append_25 rfl (lv_at hl 2 rfl) ?_
  refine lv_iload_n hx hb dX9_append_26 rfl (lv_at hl 0 rfl) ?_
  refine lv_iushr hx hb dX9_append_27 rfl ?_
  refine lv_topi (fun x16 ex16 => ?_)
  refine lv_sipush (v := 255) hx hb dX9_append_28 (by decide) ?_
  refine lv_iand hx hb dX9_append_31 ?_
  refine lv_topi (fun x17 ex17 => ?_)
  have hi18 : vp_in (nI (((ln + 1) + 1) + 1)) 800 := vp_in_nI (by omega) (by decide)
  refine va_iast hx hb hK hP hD hS 1 0 rfl rfl hi18 dX9_append_32 (fun H locs hP hD hS => ?_)
  have hP : va_P E.1 vwCl [(h0, .inr (9, [.ref by_, .int (nI (((ln + 1) + 1) + 1))])), (by_, .inl (E.2 0, 800, .inl (upd f14 (nI (((ln + 1) + 1) + 1)).toNatClampNeg x17)))] H := hP
  have hD : va_D A [(h0, .inr (9, [.ref by_, .int (nI (((ln + 1) + 1) + 1))])), (by_, .inl (E.2 0, 800, .inl (upd f14 (nI (((ln + 1) + 1) + 1)).toNatClampNeg x17)))] := hD
  obtain ⟨f19, ef19⟩ : ∃ g : Nat → Int32, g = upd f14 (nI (((ln + 1) + 1) + 1)).toNatClampNeg x17 := ⟨_, rfl⟩
  rw [← ef19] at hP hD
  refine lv_aload_n hx hb dX9_append_33 rfl (lv_at hl 1 rfl) ?_
  refine lv_dup hx hb dX9_append_34 rfl ?_
  refine va_get (D := E.1) (ci := 9) (v := .int (nI (((ln + 1) + 1) + 1))) (C := RX9) (T := TX9) (N := 2) hx hb hts inX9 hown hK hP 0 rfl rfl 1 (by decide) fl15 (fun _ h9 => h9) rfl dX9_append_35 ?_
  refine lv_iconst (v := 1) hx hb dX9_append_38 (by decide) ?_
  refine lv_iadd hx hb dX9_append_39 ?_
  refine lv_topi (fun x20 ex20 => ?_)
  obtain rfl : x20 = nI ((((ln + 1) + 1) + 1) + 1) := ex20.trans (nI_1 _)
  refine va_put (D := E.1) (ci := 9) (v := .int (nI ((((ln + 1) + 1) + 1) + 1))) (ty := .int) (C := RX9) (T := TX9) (N := 2) hx hb hts inX9 tyX9 tyX9_ok nmX9 hown hK hP hD hS 0 rfl rfl 1 (by decide) fl15 (fun _ h9 => h9) rfl (by decide +kernel) rfl rfl (Nat.le_of_ble_eq_true rfl) dX9_append_40 (fun H locs hP hD hS => ?_)
  have hP : va_P E.1 vwCl [(h0, .inr (9, [.ref by_, .int (nI ((((ln + 1) + 1) + 1) + 1))])), (by_, .inl (E.2 0, 800, .inl f19))] H := hP
  have hD : va_D A [(h0, .inr (9, [.ref by_, .int (nI ((((ln + 1) + 1) + 1) + 1))])), (by_, .inl (E.2 0, 800, .inl f19))] := hD
  refine lv_iinc (v := (-8)) (lv' := [(2, .int (-8)), (0, .ref h0), (1, .int four)]) hx hb dX9_append_43 hl (k := 0) rfl (by decide) (by decide) rfl (fun ls hl => ?_)
  refine lv_goto (tgt := 3) hx hb dX9_append_46 (by decide) ?_
  refine lv_iload_n hx hb dX9_append_3 rfl (lv_at hl 0 rfl) ?_
  refine lv_if_lt (tgt := 49) hx hb dX9_append_4 (by decide) (fun _ => ?_) (fun c9 => absurd c9 (by decide))
  have hP9 := hP.sub (ws' := [(h0, .inr (9, [.ref by_, .int (nI ((((ln + 1) + 1) + 1) + 1))])), (by_, .inl (E.2 0, 800, .inl f19))]) [0, 1] rfl
  have hD9 := hD.sub (ws' := [(h0, .inr (9, [.ref by_, .int (nI ((((ln + 1) + 1) + 1) + 1))])), (by_, .inl (E.2 0, 800, .inl f19))]) [0, 1] (by decide) rfl
  exact W.vret hx hb hr (fun t ht hW => ⟨⟨f19, rfl, trivial, by rw [ht]; exact hP9, hD9⟩, hS.F ht⟩) hS.2.2 dX9_append_49
set_option maxHeartbeats 4000000 in
set_option maxRecDepth 100000 in
theorem c_X11_feed (l : Launch) (E : vE) (h0 : Nat) (tp : Nat) (rd : Nat) (se : Nat) (ba : Nat) (of : Nat) (pl : Nat) (sr : Nat) (sc : Nat) (by_ : Nat) (a1 : Int32) (a2 : Int32) (a3 : Int32) (a4 : Int32) (a5 : Int32) (sz : Nat) : Met l yX11_feed wsX11_feed ({ frames := 1, cells := 0, slots := 0, locals := 22 }) (pcW E [.ref h0, .int a1, .int a2, .int a3, .int a4, .int a5] sz [(h0, .inr (11, [.ref tp, .ref rd, .ref se, .ref ba, .ref of, .ref pl, .ref sr, .ref sc, .int 0])), (tp, .inr (9, [.ref by_, .int 0])), (by_, .inl (E.2 0, 800, .inl (fun _ => 0)))]) (va_Qi (fun (r : Int32) (_ : Unit) => r = 20) (fun (_ : Unit) (t : State) => wB E (va_A [(h0, .inr (11, [.ref tp, .ref rd, .ref se, .ref ba, .ref of, .ref pl, .ref sr, .ref sc, .int 0])), (tp, .inr (9, [.ref by_, .int 0])), (by_, .inl (E.2 0, 800, .inl (fun _ => 0)))] sz) [] t) (va_A [(h0, .inr (11, [.ref tp, .ref rd, .ref se, .ref ba, .ref of, .ref pl, .ref sr, .ref sc, .int 0])), (tp, .inr (9, [.ref by_, .int 0])), (by_, .inl (E.2 0, 800, .inl (fun _ => 0)))] sz)) 0 0 (va_A [(h0, .inr (11, [.ref tp, .ref rd, .ref se, .ref ba, .ref of, .ref pl, .ref sr, .ref sc, .int 0])), (tp, .inr (9, [.ref by_, .int 0])), (by_, .inl (E.2 0, 800, .inl (fun _ => 0)))] sz) := by
  refine Met.ofW (cc := cX11_feed) (maxL := 6) (ret := (some .int)) (by decide) rfl ?_
  intro p e s m args below meth c s₁ B hml hv
  obtain ⟨rfl, hsz, hP, hkn, hD0, hst⟩ := hv
  have hx := B.exec
  have hb := B.bytes
  have hr := B.returns
  have hts := atoms_spec (ws := wsX11_feed) B.pre
  have hown : s.vm.findClass RX11 = some m.cls := findClass_of_methodNamed B.named
  have hlocks := B.notSynchronized
  subst hsz
  have hD := hD0.self (sz := s.heap.size)
  have hK := hkn.1
  have hAO := hkn.2.2
  generalize hAe : va_A [(h0, .inr (11, [.ref tp, .ref rd, .ref se, .ref ba, .ref of, .ref pl, .ref sr, .ref sc, .int 0])), (tp, .inr (9, [.ref by_, .int 0])), (by_, .inl (E.2 0, 800, .inl (fun _ => 0)))] s.heap.size = A at hD hst ⊢
  have hA : ∀ q : Nat, s.heap.size ≤ q → A q := fun q h => by rw [← hAe]; exact Or.inr h
  have hS : va_S A s.heap s.heap [] := va_S.rf
  have hP : va_P E.1 vwCl [(h0, .inr (11, [.ref tp, .ref rd, .ref se, .ref ba, .ref of, .ref pl, .ref sr, .ref sc, .int 0])), (tp, .inr (9, [.ref by_, .int 0])), (by_, .inl (E.2 0, 800, .inl (fun _ => 0)))] s.heap := hP
  have hl := lv_entry ([.ref h0, .int a1, .int a2, .int a3, .int a4, .int a5]) (n := 6) (Nat.le_of_ble_eq_true rfl)
  rw [lg_entry_eq]
  generalize (lg_sl ([.ref h0, .int a1, .int a2, .int a3, .int a4, .int a5]) ++ List.replicate (6 - (lg_sl ([.ref h0, .int a1, .int a2, .int a3, .int a4, .int a5])).length) Slot.unset).toArray = ls at hl ⊢
  have hl : lv_has ls 6 [(0, .ref h0), (1, .int a1), (2, .int a2), (3, .int a3), (4, .int a4), (5, .int a5)] := hl
  have fl10 := hts (.fieldLink RX11 10 "BoatsHome" "tape" "LBoatsHome$Tape;") (by decide +kernel)
  have fl73 := hts (.fieldLink RX11 73 "BoatsHome$Tape" "length" "I") (by decide +kernel)
  have inX11 : ∀ w ∈ u_ws RX11 TX11 9, w ∈ wsX11_feed := by decide +kernel
  have inX9 : ∀ w ∈ u_ws RX9 TX9 2, w ∈ wsX11_feed := by decide +kernel
  refine lv_aload_n hx hb dX11_feed_0 rfl (lv_at hl 0 rfl) ?_
  refine va_get (D := E.1) (ci := 11) (v := .ref tp) (C := RX11) (T := TX11) (N := 9) hx hb hts inX11 hown hK hP 0 rfl rfl 0 (by decide) fl10 (fun _ h9 => h9) rfl dX11_feed_1 ?_
  refine va_get (D := E.1) (ci := 9) (v := .int 0) (C := RX9) (T := TX9) (N := 2) hx hb hts inX9 hown hK hP 1 rfl rfl 1 (by decide) fl73 (fun _ h9 => h9) rfl dX11_feed_4 ?_
  refine lv_bipush (v := 20) hx hb dX11_feed_7 (by decide) ?_
  refine lv_iadd hx hb dX11_feed_9 ?_
  refine lv_topi (fun x1 ex1 => ?_)
  obtain rfl : x1 = 20 := ex1.trans (by decide +kernel)
  refine lv_sipush (v := 800) hx hb dX11_feed_10 (by decide) ?_
  refine lv_icmp_le (tgt := 19) hx hb dX11_feed_13 (by decide) (fun _ => ?_) (fun c9 => absurd c9 (by decide))
  refine lv_aload_n hx hb dX11_feed_19 rfl (lv_at hl 0 rfl) ?_
  refine va_get (D := E.1) (ci := 11) (v := .ref tp) (C := RX11) (T := TX11) (N := 9) hx hb hts inX11 hown hK hP 0 rfl rfl 0 (by decide) fl10 (fun _ h9 => h9) rfl dX11_feed_20 ?_
  refine lv_iload_n hx hb dX11_feed_23 rfl (lv_at hl 1 rfl) ?_
  have hPc := hP.sub (ws' := [(tp, .inr (9, [.ref by_, .int (nI 0)])), (by_, .inl (E.2 0, 800, .inl (fun _ => 0)))]) [1, 2] rfl
  have hDc := hD.sub (ws' := [(tp, .inr (9, [.ref by_, .int (nI 0)])), (by_, .inl (E.2 0, 800, .inl (fun _ => 0)))]) [1, 2] (by decide) rfl
  have hFc := va_free (wc := [(tp, .inr (9, [.ref by_, .int (nI 0)])), (by_, .inl (E.2 0, 800, .inl (fun _ => 0)))]) hD hS hA [1, 2] rfl
  refine va_callv (va_runV (As := [.int a1]) (rest := []) ⟨hx, hb, hml, hown, hts⟩ (c_X9_append l E tp by_ 0 a1 (fun _ => 0) s.heap.size (by decide)) (cwV 1 hts gX11_feed_X9_append rfl rfl rfl (by decide +kernel) ⟨Nat.le_of_ble_eq_true rfl, Nat.le_of_ble_eq_true rfl⟩) ⟨pcW_blind, va_recv hK hPc (ci := 9) (q0 := 0) rfl rfl, (pcW_pre hPc hkn hDc hst hS hFc)⟩ rfl rfl hl.1 rfl (lv_room (Nat.le_of_ble_eq_true rfl)) dX11_feed_24 ⟨Nat.le_of_ble_eq_true rfl, Nat.le_of_ble_eq_true rfl⟩) hS (fun q _ h => hFc q h) hFc (fun u t H1 locs ht hvm hw3 hB hz1 hk1 hS => ?_)
  obtain ⟨u4, rfl⟩ : ∃ z, z = u := ⟨_, rfl⟩
  obtain ⟨hP1, hD1⟩ := hB
  rw [ht] at hP1
  try dsimp only at hw3
  obtain ⟨hP, hD⟩ := va_join (wr := [(h0, .inr (11, [.ref tp, .ref rd, .ref se, .ref ba, .ref of, .ref pl, .ref sr, .ref sc, .int 0]))]) (w1 := [(tp, .inr (9, [.ref by_, .int (nI (0 + 4))])), (by_, .inl (E.2 0, 800, .inl u4))]) hP hD [1, 2] [0] rfl rfl (by decide) (by decide) hk1 hFc hP1 hD1
  generalize H1 = H at hP hS ⊢
  have hP : va_P E.1 vwCl [(h0, .inr (11, [.ref tp, .ref rd, .ref se, .ref ba, .ref of, .ref pl, .ref sr, .ref sc, .int 0])), (tp, .inr (9, [.ref by_, .int (nI (0 + 4))])), (by_, .inl (E.2 0, 800, .inl u4))] H := hP
  have hD : va_D A [(h0, .inr (11, [.ref tp, .ref rd, .ref se, .ref ba, .ref of, .ref pl, .ref sr, .ref sc, .int 0])), (tp, .inr (9, [.ref by_, .int (nI (0 + 4))])), (by_, .inl (E.2 0, 800, .inl u4))] := hD
  refine lv_aload_n hx hb dX11_feed_27 rfl (lv_at hl 0 rfl) ?_
  refine va_get (D := E.1) (ci := 11) (v := .ref tp) (C := RX11) (T := TX11) (N := 9) hx hb hts inX11 hown hK hP 0 rfl rfl 0 (by decide) fl10 (fun _ h9 => h9) rfl dX11_feed_28 ?_
  refine lv_iload_n hx hb dX11_feed_31 rfl (lv_at hl 2 rfl) ?_
  have hPc := hP.sub (ws' := [(tp, .inr (9, [.ref by_, .int (nI (0 + 4))])), (by_, .inl (E.2 0, 800, .inl u4))]) [1, 2] rfl
  have hDc := hD.sub (ws' := [(tp, .inr (9, [.ref by_, .int (nI (0 + 4))])), (by_, .inl (E.2 0, 800, .inl u4))]) [1, 2] (by decide) rfl
  have hFc := va_free (wc := [(tp, .inr (9, [.ref by_, .int (nI (0 + 4))])), (by_, .inl (E.2 0, 800, .inl u4))]) hD hS hA [1, 2] rfl
  refine va_callv (va_runV (As := [.int a2]) (rest := []) ⟨hx, hb, hml, hown, hts⟩ (c_X9_append l E tp by_ (0 + 4) a2 u4 H.size (by decide)) (cwV 1 hts gX11_feed_X9_append rfl rfl rfl (by decide +kernel) ⟨Nat.le_of_ble_eq_true rfl, Nat.le_of_ble_eq_true rfl⟩) ⟨pcW_blind, va_recv hK hPc (ci := 9) (q0 := 0) rfl rfl, (pcW_pre hPc hkn hDc hst hS hFc)⟩ rfl rfl hl.1 rfl (lv_room (Nat.le_of_ble_eq_true rfl)) dX11_feed_32 ⟨Nat.le_of_ble_eq_true rfl, Nat.le_of_ble_eq_true rfl⟩) hS (fun q _ h => hFc q h) hFc (fun u t H1 locs ht hvm hw6 hB hz1 hk1 hS => ?_)
  obtain ⟨u7, rfl⟩ : ∃ z, z = u := ⟨_, rfl⟩
  obtain ⟨hP1, hD1⟩ := hB
  rw [ht] at hP1
  try dsimp only at hw6
  obtain ⟨hP, hD⟩ := va_join (wr := [(h0, .inr (11, [.ref tp, .ref rd, .ref se, .ref ba, .ref of, .ref pl, .ref sr, .ref sc, .int 0]))]) (w1 := [(tp, .inr (9, [.ref by_, .int (nI ((0 + 4) + 4))])), (by_, .inl (E.2 0, 800, .inl u7))]) hP hD [1, 2] [0] rfl rfl (by decide) (by decide) hk1 hFc hP1 hD1
  generalize H1 = H at hP hS ⊢
  have hP : va_P E.1 vwCl [(h0, .inr (11, [.ref tp, .ref rd, .ref se, .ref ba, .ref of, .ref pl, .ref sr, .ref sc, .int 0])), (tp, .inr (9, [.ref by_, .int (nI ((0 + 4) + 4))])), (by_, .inl (E.2 0, 800, .inl u7))] H := hP
  have hD : va_D A [(h0, .inr (11, [.ref tp, .ref rd, .ref se, .ref ba, .ref of, .ref pl, .ref sr, .ref sc, .int 0])), (tp, .inr (9, [.ref by_, .int (nI ((0 + 4) + 4))])), (by_, .inl (E.2 0, 800, .inl u7))] := hD
  refine lv_aload_n hx hb dX11_feed_35 rfl (lv_at hl 0 rfl) ?_
  refine va_get (D := E.1) (ci := 11) (v := .ref tp) (C := RX11) (T := TX11) (N := 9) hx hb hts inX11 hown hK hP 0 rfl rfl 0 (by decide) fl10 (fun _ h9 => h9) rfl dX11_feed_36 ?_
  refine lv_iload_n hx hb dX11_feed_39 rfl (lv_at hl 3 rfl) ?_
  have hPc := hP.sub (ws' := [(tp, .inr (9, [.ref by_, .int (nI ((0 + 4) + 4))])), (by_, .inl (E.2 0, 800, .inl u7))]) [1, 2] rfl
  have hDc := hD.sub (ws' := [(tp, .inr (9, [.ref by_, .int (nI ((0 + 4) + 4))])), (by_, .inl (E.2 0, 800, .inl u7))]) [1, 2] (by decide) rfl
  have hFc := va_free (wc := [(tp, .inr (9, [.ref by_, .int (nI ((0 + 4) + 4))])), (by_, .inl (E.2 0, 800, .inl u7))]) hD hS hA [1, 2] rfl
  refine va_callv (va_runV (As := [.int a3]) (rest := []) ⟨hx, hb, hml, hown, hts⟩ (c_X9_append l E tp by_ ((0 + 4) + 4) a3 u7 H.size (by decide)) (cwV 1 hts gX11_feed_X9_append rfl rfl rfl (by decide +kernel) ⟨Nat.le_of_ble_eq_true rfl, Nat.le_of_ble_eq_true rfl⟩) ⟨pcW_blind, va_recv hK hPc (ci := 9) (q0 := 0) rfl rfl, (pcW_pre hPc hkn hDc hst hS hFc)⟩ rfl rfl hl.1 rfl (lv_room (Nat.le_of_ble_eq_true rfl)) dX11_feed_40 ⟨Nat.le_of_ble_eq_true rfl, Nat.le_of_ble_eq_true rfl⟩) hS (fun q _ h => hFc q h) hFc (fun u t H1 locs ht hvm hw9 hB hz1 hk1 hS => ?_)
  obtain ⟨u10, rfl⟩ : ∃ z, z = u := ⟨_, rfl⟩
  obtain ⟨hP1, hD1⟩ := hB
  rw [ht] at hP1
  try dsimp only at hw9
  obtain ⟨hP, hD⟩ := va_join (wr := [(h0, .inr (11, [.ref tp, .ref rd, .ref se, .ref ba, .ref of, .ref pl, .ref sr, .ref sc, .int 0]))]) (w1 := [(tp, .inr (9, [.ref by_, .int (nI (((0 + 4) + 4) + 4))])), (by_, .inl (E.2 0, 800, .inl u10))]) hP hD [1, 2] [0] rfl rfl (by decide) (by decide) hk1 hFc hP1 hD1
  generalize H1 = H at hP hS ⊢
  have hP : va_P E.1 vwCl [(h0, .inr (11, [.ref tp, .ref rd, .ref se, .ref ba, .ref of, .ref pl, .ref sr, .ref sc, .int 0])), (tp, .inr (9, [.ref by_, .int (nI (((0 + 4) + 4) + 4))])), (by_, .inl (E.2 0, 800, .inl u10))] H := hP
  have hD : va_D A [(h0, .inr (11, [.ref tp, .ref rd, .ref se, .ref ba, .ref of, .ref pl, .ref sr, .ref sc, .int 0])), (tp, .inr (9, [.ref by_, .int (nI (((0 + 4) + 4) + 4))])), (by_, .inl (E.2 0, 800, .inl u10))] := hD
  refine lv_aload_n hx hb dX11_feed_43 rfl (lv_at hl 0 rfl) ?_
  refine va_get (D := E.1) (ci := 11) (v := .ref tp) (C := RX11) (T := TX11) (N := 9) hx hb hts inX11 hown hK hP 0 rfl rfl 0 (by decide) fl10 (fun _ h9 => h9) rfl dX11_feed_44 ?_
  refine lv_iload hx hb dX11_feed_47 (lv_at hl 4 rfl) ?_
  have hPc := hP.sub (ws' := [(tp, .inr (9, [.ref by_, .int (nI (((0 + 4) + 4) + 4))])), (by_, .inl (E.2 0, 800, .inl u10))]) [1, 2] rfl
  have hDc := hD.sub (ws' := [(tp, .inr (9, [.ref by_, .int (nI (((0 + 4) + 4) + 4))])), (by_, .inl (E.2 0, 800, .inl u10))]) [1, 2] (by decide) rfl
  have hFc := va_free (wc := [(tp, .inr (9, [.ref by_, .int (nI (((0 + 4) + 4) + 4))])), (by_, .inl (E.2 0, 800, .inl u10))]) hD hS hA [1, 2] rfl
  refine va_callv (va_runV (As := [.int a4]) (rest := []) ⟨hx, hb, hml, hown, hts⟩ (c_X9_append l E tp by_ (((0 + 4) + 4) + 4) a4 u10 H.size (by decide)) (cwV 1 hts gX11_feed_X9_append rfl rfl rfl (by decide +kernel) ⟨Nat.le_of_ble_eq_true rfl, Nat.le_of_ble_eq_true rfl⟩) ⟨pcW_blind, va_recv hK hPc (ci := 9) (q0 := 0) rfl rfl, (pcW_pre hPc hkn hDc hst hS hFc)⟩ rfl rfl hl.1 rfl (lv_room (Nat.le_of_ble_eq_true rfl)) dX11_feed_49 ⟨Nat.le_of_ble_eq_true rfl, Nat.le_of_ble_eq_true rfl⟩) hS (fun q _ h => hFc q h) hFc (fun u t H1 locs ht hvm hw12 hB hz1 hk1 hS => ?_)
  obtain ⟨u13, rfl⟩ : ∃ z, z = u := ⟨_, rfl⟩
  obtain ⟨hP1, hD1⟩ := hB
  rw [ht] at hP1
  try dsimp only at hw12
  obtain ⟨hP, hD⟩ := va_join (wr := [(h0, .inr (11, [.ref tp, .ref rd, .ref se, .ref ba, .ref of, .ref pl, .ref sr, .ref sc, .int 0]))]) (w1 := [(tp, .inr (9, [.ref by_, .int (nI ((((0 + 4) + 4) + 4) + 4))])), (by_, .inl (E.2 0, 800, .inl u13))]) hP hD [1, 2] [0] rfl rfl (by decide) (by decide) hk1 hFc hP1 hD1
  generalize H1 = H at hP hS ⊢
  have hP : va_P E.1 vwCl [(h0, .inr (11, [.ref tp, .ref rd, .ref se, .ref ba, .ref of, .ref pl, .ref sr, .ref sc, .int 0])), (tp, .inr (9, [.ref by_, .int (nI ((((0 + 4) + 4) + 4) + 4))])), (by_, .inl (E.2 0, 800, .inl u13))] H := hP
  have hD : va_D A [(h0, .inr (11, [.ref tp, .ref rd, .ref se, .ref ba, .ref of, .ref pl, .ref sr, .ref sc, .int 0])), (tp, .inr (9, [.ref by_, .int (nI ((((0 + 4) + 4) + 4) + 4))])), (by_, .inl (E.2 0, 800, .inl u13))] := hD
  refine lv_aload_n hx hb dX11_feed_52 rfl (lv_at hl 0 rfl) ?_
  refine va_get (D := E.1) (ci := 11) (v := .ref tp) (C := RX11) (T := TX11) (N := 9) hx hb hts inX11 hown hK hP 0 rfl rfl 0 (by decide) fl10 (fun _ h9 => h9) rfl dX11_feed_53 ?_
  refine lv_iload hx hb dX11_feed_56 (lv_at hl 5 rfl) ?_
  have hPc := hP.sub (ws' := [(tp, .inr (9, [.ref by_, .int (nI ((((0 + 4) + 4) + 4) + 4))])), (by_, .inl (E.2 0, 800, .inl u13))]) [1, 2] rfl
  have hDc := hD.sub (ws' := [(tp, .inr (9, [.ref by_, .int (nI ((((0 + 4) + 4) + 4) + 4))])), (by_, .inl (E.2 0, 800, .inl u13))]) [1, 2] (by decide) rfl
  have hFc := va_free (wc := [(tp, .inr (9, [.ref by_, .int (nI ((((0 + 4) + 4) + 4) + 4))])), (by_, .inl (E.2 0, 800, .inl u13))]) hD hS hA [1, 2] rfl
  refine va_callv (va_runV (As := [.int a5]) (rest := []) ⟨hx, hb, hml, hown, hts⟩ (c_X9_append l E tp by_ ((((0 + 4) + 4) + 4) + 4) a5 u13 H.size (by decide)) (cwV 1 hts gX11_feed_X9_append rfl rfl rfl (by decide +kernel) ⟨Nat.le_of_ble_eq_true rfl, Nat.le_of_ble_eq_true rfl⟩) ⟨pcW_blind, va_recv hK hPc (ci := 9) (q0 := 0) rfl rfl, (pcW_pre hPc hkn hDc hst hS hFc)⟩ rfl rfl hl.1 rfl (lv_room (Nat.le_of_ble_eq_true rfl)) dX11_feed_58 ⟨Nat.le_of_ble_eq_true rfl, Nat.le_of_ble_eq_true rfl⟩) hS (fun q _ h => hFc q h) hFc (fun u t H1 locs ht hvm hw15 hB hz1 hk1 hS => ?_)
  obtain ⟨u16, rfl⟩ : ∃ z, z = u := ⟨_, rfl⟩
  obtain ⟨hP1, hD1⟩ := hB
  rw [ht] at hP1
  try dsimp only at hw15
  obtain ⟨hP, hD⟩ := va_join (wr := [(h0, .inr (11, [.ref tp, .ref rd, .ref se, .ref ba, .ref of, .ref pl, .ref sr, .ref sc, .int 0]))]) (w1 := [(tp, .inr (9, [.ref by_, .int (nI (((((0 + 4) + 4) + 4) + 4) + 4))])), (by_, .inl (E.2 0, 800, .inl u16))]) hP hD [1, 2] [0] rfl rfl (by decide) (by decide) hk1 hFc hP1 hD1
  generalize H1 = H at hP hS ⊢
  have hP : va_P E.1 vwCl [(h0, .inr (11, [.ref tp, .ref rd, .ref se, .ref ba, .ref of, .ref pl, .ref sr, .ref sc, .int 0])), (tp, .inr (9, [.ref by_, .int (nI (((((0 + 4) + 4) + 4) + 4) + 4))])), (by_, .inl (E.2 0, 800, .inl u16))] H := hP
  have hD : va_D A [(h0, .inr (11, [.ref tp, .ref rd, .ref se, .ref ba, .ref of, .ref pl, .ref sr, .ref sc, .int 0])), (tp, .inr (9, [.ref by_, .int (nI (((((0 + 4) + 4) + 4) + 4) + 4))])), (by_, .inl (E.2 0, 800, .inl u16))] := hD
  refine lv_aload_n hx hb dX11_feed_61 rfl (lv_at hl 0 rfl) ?_
  refine va_get (D := E.1) (ci := 11) (v := .ref tp) (C := RX11) (T := TX11) (N := 9) hx hb hts inX11 hown hK hP 0 rfl rfl 0 (by decide) fl10 (fun _ h9 => h9) rfl dX11_feed_62 ?_
  refine va_get (D := E.1) (ci := 9) (v := .int (nI (((((0 + 4) + 4) + 4) + 4) + 4))) (C := RX9) (T := TX9) (N := 2) hx hb hts inX9 hown hK hP 1 rfl rfl 1 (by decide) fl73 (fun _ h9 => h9) rfl dX11_feed_65 ?_
  have hP9 := hP.sub (ws' := []) [] rfl
  have hD9 := hD.sub (ws' := []) [] (by decide) rfl
  exact W.iret (v := (nI (((((0 + 4) + 4) + 4) + 4) + 4))) hx hb hr (fun t ht hW => ⟨⟨(nI (((((0 + 4) + 4) + 4) + 4) + 4)), (), rfl, rfl, by rw [ht]; exact hP9, hD9⟩, hS.F ht⟩) hS.2.2 dX11_feed_68
set_option maxHeartbeats 4000000 in
set_option maxRecDepth 100000 in
theorem c_X9_byteAt (l : Launch) (E : vE) (h0 : Nat) (by_ : Nat) (sz : Nat) : Met l yX9_byteAt wsX9_byteAt ({ frames := 0, cells := 0, slots := 0, locals := 0 }) (pcW E [.ref h0, .int 0] sz [(h0, .inr (9, [.ref by_, .int 0]))]) (va_Qi (fun (r : Int32) (_ : Unit) => r = -1) (fun (_ : Unit) (t : State) => wB E (va_A [(h0, .inr (9, [.ref by_, .int 0]))] sz) [(h0, .inr (9, [.ref by_, .int 0]))] t) (va_A [(h0, .inr (9, [.ref by_, .int 0]))] sz)) 0 0 (va_A [(h0, .inr (9, [.ref by_, .int 0]))] sz) := by
  refine Met.ofW (cc := cX9_byteAt) (maxL := 2) (ret := (some .int)) (by decide) rfl ?_
  intro p e s m args below meth c s₁ B hml hv
  obtain ⟨rfl, hsz, hP, hkn, hD0, hst⟩ := hv
  have hx := B.exec
  have hb := B.bytes
  have hr := B.returns
  have hts := atoms_spec (ws := wsX9_byteAt) B.pre
  have hown : s.vm.findClass RX9 = some m.cls := findClass_of_methodNamed B.named
  have hlocks := B.notSynchronized
  subst hsz
  have hD := hD0.self (sz := s.heap.size)
  have hK := hkn.1
  have hAO := hkn.2.2
  generalize hAe : va_A [(h0, .inr (9, [.ref by_, .int 0]))] s.heap.size = A at hD hst ⊢
  have hA : ∀ q : Nat, s.heap.size ≤ q → A q := fun q h => by rw [← hAe]; exact Or.inr h
  have hS : va_S A s.heap s.heap [] := va_S.rf
  have hP : va_P E.1 vwCl [(h0, .inr (9, [.ref by_, .int 0]))] s.heap := hP
  have hl := lv_entry ([.ref h0, .int 0]) (n := 2) (Nat.le_of_ble_eq_true rfl)
  rw [lg_entry_eq]
  generalize (lg_sl ([.ref h0, .int 0]) ++ List.replicate (2 - (lg_sl ([.ref h0, .int 0])).length) Slot.unset).toArray = ls at hl ⊢
  have hl : lv_has ls 2 [(0, .ref h0), (1, .int 0)] := hl
  have fl9 := hts (.fieldLink RX9 9 "BoatsHome$Tape" "bytes" "[I") (by decide +kernel)
  have fl15 := hts (.fieldLink RX9 15 "BoatsHome$Tape" "length" "I") (by decide +kernel)
  have inX9 : ∀ w ∈ u_ws RX9 TX9 2, w ∈ wsX9_byteAt := by decide +kernel
  refine lv_iload_n hx hb dX9_byteAt_0 rfl (lv_at hl 1 rfl) ?_
  refine lv_if_lt (tgt := 28) hx hb dX9_byteAt_1 (by decide) (fun c9 => absurd c9 (by decide)) (fun _ => ?_)
  refine lv_iload_n hx hb dX9_byteAt_4 rfl (lv_at hl 1 rfl) ?_
  refine lv_aload_n hx hb dX9_byteAt_5 rfl (lv_at hl 0 rfl) ?_
  refine va_get (D := E.1) (ci := 9) (v := .int 0) (C := RX9) (T := TX9) (N := 2) hx hb hts inX9 hown hK hP 0 rfl rfl 1 (by decide) fl15 (fun _ h9 => h9) rfl dX9_byteAt_6 ?_
  refine lv_icmp_ge (tgt := 28) hx hb dX9_byteAt_9 (by decide) (fun _ => ?_) (fun c9 => absurd c9 (by decide))
  refine lv_iconst (v := (-1)) hx hb dX9_byteAt_28 (by decide) ?_
  have hP9 := hP.sub (ws' := [(h0, .inr (9, [.ref by_, .int 0]))]) [0] rfl
  have hD9 := hD.sub (ws' := [(h0, .inr (9, [.ref by_, .int 0]))]) [0] (by decide) rfl
  exact W.iret (v := (-1)) hx hb hr (fun t ht hW => ⟨⟨(-1), (), rfl, rfl, by rw [ht]; exact hP9, hD9⟩, hS.F ht⟩) hS.2.2 dX9_byteAt_29
set_option maxHeartbeats 4000000 in
set_option maxRecDepth 100000 in
theorem c_X10_skipBlanks (l : Launch) (E : vE) (h0 : Nat) (tp : Nat) (by_ : Nat) (sz : Nat) : Met l yX10_skipBlanks wsX10_skipBlanks ({ frames := 0, cells := 0, slots := 0, locals := 0 }) (pcW E [.ref h0] sz [(h0, .inr (10, [.ref tp, .int 0, .int 0, .int 0, .int 0])), (tp, .inr (9, [.ref by_, .int 0]))]) (va_Qv (fun (_ : Unit) => True) (fun (_ : Unit) (t : State) => wB E (va_A [(h0, .inr (10, [.ref tp, .int 0, .int 0, .int 0, .int 0])), (tp, .inr (9, [.ref by_, .int 0]))] sz) [(h0, .inr (10, [.ref tp, .int 0, .int 0, .int 0, .int 0])), (tp, .inr (9, [.ref by_, .int 0]))] t) (va_A [(h0, .inr (10, [.ref tp, .int 0, .int 0, .int 0, .int 0])), (tp, .inr (9, [.ref by_, .int 0]))] sz)) 0 0 (va_A [(h0, .inr (10, [.ref tp, .int 0, .int 0, .int 0, .int 0])), (tp, .inr (9, [.ref by_, .int 0]))] sz) := by
  refine Met.ofW (cc := cX10_skipBlanks) (maxL := 1) (ret := none) (by decide) rfl ?_
  intro p e s m args below meth c s₁ B hml hv
  obtain ⟨rfl, hsz, hP, hkn, hD0, hst⟩ := hv
  have hx := B.exec
  have hb := B.bytes
  have hr := B.returns
  have hts := atoms_spec (ws := wsX10_skipBlanks) B.pre
  have hown : s.vm.findClass RX10 = some m.cls := findClass_of_methodNamed B.named
  have hlocks := B.notSynchronized
  subst hsz
  have hD := hD0.self (sz := s.heap.size)
  have hK := hkn.1
  have hAO := hkn.2.2
  generalize hAe : va_A [(h0, .inr (10, [.ref tp, .int 0, .int 0, .int 0, .int 0])), (tp, .inr (9, [.ref by_, .int 0]))] s.heap.size = A at hD hst ⊢
  have hA : ∀ q : Nat, s.heap.size ≤ q → A q := fun q h => by rw [← hAe]; exact Or.inr h
  have hS : va_S A s.heap s.heap [] := va_S.rf
  have hP : va_P E.1 vwCl [(h0, .inr (10, [.ref tp, .int 0, .int 0, .int 0, .int 0])), (tp, .inr (9, [.ref by_, .int 0]))] s.heap := hP
  have hl := lv_entry ([.ref h0]) (n := 1) (Nat.le_of_ble_eq_true rfl)
  rw [lg_entry_eq]
  generalize (lg_sl ([.ref h0]) ++ List.replicate (1 - (lg_sl ([.ref h0])).length) Slot.unset).toArray = ls at hl ⊢
  have hl : lv_has ls 1 [(0, .ref h0)] := hl
  have fl21 := hts (.fieldLink RX10 21 "BoatsHome$Tokens" "behind" "I") (by decide +kernel)
  have fl24 := hts (.fieldLink RX10 24 "BoatsHome$Tokens" "tape" "LBoatsHome$Tape;") (by decide +kernel)
  have fl63 := hts (.fieldLink RX10 63 "BoatsHome$Tape" "length" "I") (by decide +kernel)
  have inX10 : ∀ w ∈ u_ws RX10 TX10 5, w ∈ wsX10_skipBlanks := by decide +kernel
  have inX9 : ∀ w ∈ u_ws RX9 TX9 2, w ∈ wsX10_skipBlanks := by decide +kernel
  refine lv_aload_n hx hb dX10_skipBlanks_0 rfl (lv_at hl 0 rfl) ?_
  refine va_get (D := E.1) (ci := 10) (v := .int 0) (C := RX10) (T := TX10) (N := 5) hx hb hts inX10 hown hK hP 0 rfl rfl 4 (by decide) fl21 (fun _ h9 => h9) rfl dX10_skipBlanks_1 ?_
  refine lv_aload_n hx hb dX10_skipBlanks_4 rfl (lv_at hl 0 rfl) ?_
  refine va_get (D := E.1) (ci := 10) (v := .ref tp) (C := RX10) (T := TX10) (N := 5) hx hb hts inX10 hown hK hP 0 rfl rfl 0 (by decide) fl24 (fun _ h9 => h9) rfl dX10_skipBlanks_5 ?_
  refine va_get (D := E.1) (ci := 9) (v := .int 0) (C := RX9) (T := TX9) (N := 2) hx hb hts inX9 hown hK hP 1 rfl rfl 1 (by decide) fl63 (fun _ h9 => h9) rfl dX10_skipBlanks_8 ?_
  refine lv_icmp_ge (tgt := 44) hx hb dX10_skipBlanks_11 (by decide) (fun _ => ?_) (fun c9 => absurd c9 (by decide))
  have hP9 := hP.sub (ws' := [(h0, .inr (10, [.ref tp, .int 0, .int 0, .int 0, .int 0])), (tp, .inr (9, [.ref by_, .int 0]))]) [0, 1] rfl
  have hD9 := hD.sub (ws' := [(h0, .inr (10, [.ref tp, .int 0, .int 0, .int 0, .int 0])), (tp, .inr (9, [.ref by_, .int 0]))]) [0, 1] (by decide) rfl
  exact W.vret hx hb hr (fun t ht hW => ⟨⟨(), rfl, trivial, by rw [ht]; exact hP9, hD9⟩, hS.F ht⟩) hS.2.2 dX10_skipBlanks_44
set_option maxHeartbeats 4000000 in
set_option maxRecDepth 100000 in
theorem c_X10_advance (l : Launch) (E : vE) (h0 : Nat) (tp : Nat) (by_ : Nat) (sz : Nat) : Met l yX10_advance wsX10_advance ({ frames := 1, cells := 0, slots := 0, locals := 21 }) (pcW E [.ref h0] sz [(h0, .inr (10, [.ref tp, .int 0, .int 0, .int 0, .int 0])), (tp, .inr (9, [.ref by_, .int 0]))]) (va_Qv (fun (_ : Unit) => True) (fun (_ : Unit) (t : State) => wB E (va_A [(h0, .inr (10, [.ref tp, .int 0, .int 0, .int 0, .int 0])), (tp, .inr (9, [.ref by_, .int 0]))] sz) [(h0, .inr (10, [.ref tp, .int 0, .int 0, .int 0, .int 0])), (tp, .inr (9, [.ref by_, .int 0]))] t) (va_A [(h0, .inr (10, [.ref tp, .int 0, .int 0, .int 0, .int 0])), (tp, .inr (9, [.ref by_, .int 0]))] sz)) 0 0 (va_A [(h0, .inr (10, [.ref tp, .int 0, .int 0, .int 0, .int 0])), (tp, .inr (9, [.ref by_, .int 0]))] sz) := by
  refine Met.ofW (cc := cX10_advance) (maxL := 2) (ret := none) (by decide) rfl ?_
  intro p e s m args below meth c s₁ B hml hv
  obtain ⟨rfl, hsz, hP, hkn, hD0, hst⟩ := hv
  have hx := B.exec
  have hb := B.bytes
  have hr := B.returns
  have hts := atoms_spec (ws := wsX10_advance) B.pre
  have hown : s.vm.findClass RX10 = some m.cls := findClass_of_methodNamed B.named
  have hlocks := B.notSynchronized
  subst hsz
  have hD := hD0.self (sz := s.heap.size)
  have hK := hkn.1
  have hAO := hkn.2.2
  generalize hAe : va_A [(h0, .inr (10, [.ref tp, .int 0, .int 0, .int 0, .int 0])), (tp, .inr (9, [.ref by_, .int 0]))] s.heap.size = A at hD hst ⊢
  have hA : ∀ q : Nat, s.heap.size ≤ q → A q := fun q h => by rw [← hAe]; exact Or.inr h
  have hS : va_S A s.heap s.heap [] := va_S.rf
  have hP : va_P E.1 vwCl [(h0, .inr (10, [.ref tp, .int 0, .int 0, .int 0, .int 0])), (tp, .inr (9, [.ref by_, .int 0]))] s.heap := hP
  have hl := lv_entry ([.ref h0]) (n := 2) (Nat.le_of_ble_eq_true rfl)
  rw [lg_entry_eq]
  generalize (lg_sl ([.ref h0]) ++ List.replicate (2 - (lg_sl ([.ref h0])).length) Slot.unset).toArray = ls at hl ⊢
  have hl : lv_has ls 2 [(0, .ref h0)] := hl
  have fl11 := hts (.fieldLink RX10 11 "BoatsHome$Tokens" "kind" "I") (by decide +kernel)
  have fl15 := hts (.fieldLink RX10 15 "BoatsHome$Tokens" "start" "I") (by decide +kernel)
  have fl21 := hts (.fieldLink RX10 21 "BoatsHome$Tokens" "behind" "I") (by decide +kernel)
  have fl24 := hts (.fieldLink RX10 24 "BoatsHome$Tokens" "tape" "LBoatsHome$Tape;") (by decide +kernel)
  have inX10 : ∀ w ∈ u_ws RX10 TX10 5, w ∈ wsX10_advance := by decide +kernel
  refine lv_aload_n hx hb dX10_advance_0 rfl (lv_at hl 0 rfl) ?_
  have hPc := hP.sub (ws' := [(h0, .inr (10, [.ref tp, .int 0, .int 0, .int 0, .int 0])), (tp, .inr (9, [.ref by_, .int 0]))]) [0, 1] rfl
  have hDc := hD.sub (ws' := [(h0, .inr (10, [.ref tp, .int 0, .int 0, .int 0, .int 0])), (tp, .inr (9, [.ref by_, .int 0]))]) [0, 1] (by decide) rfl
  have hFc := va_free (wc := [(h0, .inr (10, [.ref tp, .int 0, .int 0, .int 0, .int 0])), (tp, .inr (9, [.ref by_, .int 0]))]) hD hS hA [0, 1] rfl
  refine va_callv (va_runV (As := []) (rest := []) ⟨hx, hb, hml, hown, hts⟩ (c_X10_skipBlanks l E h0 tp by_ s.heap.size ) (cwV 0 hts gX10_advance_X10_skipBlanks rfl rfl rfl (by decide +kernel) ⟨Nat.le_of_ble_eq_true rfl, Nat.le_of_ble_eq_true rfl⟩) ⟨pcW_blind, va_recv hK hPc (ci := 10) (q0 := 0) rfl rfl, (pcW_pre hPc hkn hDc hst hS hFc)⟩ rfl rfl hl.1 rfl (lv_room (Nat.le_of_ble_eq_true rfl)) dX10_advance_1 ⟨Nat.le_of_ble_eq_true rfl, Nat.le_of_ble_eq_true rfl⟩) hS (fun q _ h => hFc q h) hFc (fun u t H1 locs ht hvm hw2 hB hz1 hk1 hS => ?_)
  obtain ⟨hP1, hD1⟩ := hB
  rw [ht] at hP1
  try dsimp only at hw2
  obtain ⟨hP, hD⟩ := va_join (wr := []) (w1 := [(h0, .inr (10, [.ref tp, .int 0, .int 0, .int 0, .int 0])), (tp, .inr (9, [.ref by_, .int 0]))]) hP hD [0, 1] [] rfl rfl (by decide) (by decide) hk1 hFc hP1 hD1
  generalize H1 = H at hP hS ⊢
  have hP : va_P E.1 vwCl [(h0, .inr (10, [.ref tp, .int 0, .int 0, .int 0, .int 0])), (tp, .inr (9, [.ref by_, .int 0]))] H := hP
  have hD : va_D A [(h0, .inr (10, [.ref tp, .int 0, .int 0, .int 0, .int 0])), (tp, .inr (9, [.ref by_, .int 0]))] := hD
  refine lv_aload_n hx hb dX10_advance_4 rfl (lv_at hl 0 rfl) ?_
  refine lv_aload_n hx hb dX10_advance_5 rfl (lv_at hl 0 rfl) ?_
  refine va_get (D := E.1) (ci := 10) (v := .int 0) (C := RX10) (T := TX10) (N := 5) hx hb hts inX10 hown hK hP 0 rfl rfl 4 (by decide) fl21 (fun _ h9 => h9) rfl dX10_advance_6 ?_
  refine va_put (D := E.1) (ci := 10) (v := .int 0) (ty := .int) (C := RX10) (T := TX10) (N := 5) hx hb hts inX10 tyX10 tyX10_ok nmX10 hown hK hP hD hS 0 rfl rfl 2 (by decide) fl15 (fun _ h9 => h9) rfl (by decide +kernel) rfl rfl (Nat.le_of_ble_eq_true rfl) dX10_advance_9 (fun H locs hP hD hS => ?_)
  have hP : va_P E.1 vwCl [(h0, .inr (10, [.ref tp, .int 0, .int 0, .int 0, .int 0])), (tp, .inr (9, [.ref by_, .int 0]))] H := hP
  have hD : va_D A [(h0, .inr (10, [.ref tp, .int 0, .int 0, .int 0, .int 0])), (tp, .inr (9, [.ref by_, .int 0]))] := hD
  refine lv_aload_n hx hb dX10_advance_12 rfl (lv_at hl 0 rfl) ?_
  refine va_get (D := E.1) (ci := 10) (v := .ref tp) (C := RX10) (T := TX10) (N := 5) hx hb hts inX10 hown hK hP 0 rfl rfl 0 (by decide) fl24 (fun _ h9 => h9) rfl dX10_advance_13 ?_
  refine lv_aload_n hx hb dX10_advance_16 rfl (lv_at hl 0 rfl) ?_
  refine va_get (D := E.1) (ci := 10) (v := .int 0) (C := RX10) (T := TX10) (N := 5) hx hb hts inX10 hown hK hP 0 rfl rfl 2 (by decide) fl15 (fun _ h9 => h9) rfl dX10_advance_17 ?_
  have hPc := hP.sub (ws' := [(tp, .inr (9, [.ref by_, .int 0]))]) [1] rfl
  have hDc := hD.sub (ws' := [(tp, .inr (9, [.ref by_, .int 0]))]) [1] (by decide) rfl
  have hFc := va_free (wc := [(tp, .inr (9, [.ref by_, .int 0]))]) hD hS hA [1] rfl
  refine va_calli (va_runV (As := [.int 0]) (rest := []) ⟨hx, hb, hml, hown, hts⟩ (c_X9_byteAt l E tp by_ H.size ) (cwV 1 hts gX10_advance_X9_byteAt rfl rfl rfl (by decide +kernel) ⟨Nat.le_of_ble_eq_true rfl, Nat.le_of_ble_eq_true rfl⟩) ⟨pcW_blind, va_recv hK hPc (ci := 9) (q0 := 0) rfl rfl, (pcW_pre hPc hkn hDc hst hS hFc)⟩ rfl rfl hl.1 rfl (lv_room (Nat.le_of_ble_eq_true rfl)) dX10_advance_20 ⟨Nat.le_of_ble_eq_true rfl, Nat.le_of_ble_eq_true rfl⟩) hS (fun q _ h => hFc q h) hFc (fun r3 u t H1 locs ht hvm hw4 hB hz1 hk1 hS => ?_)
  obtain ⟨hP1, hD1⟩ := hB
  rw [ht] at hP1
  try dsimp only at hw4
  obtain ⟨hP, hD⟩ := va_join (wr := [(h0, .inr (10, [.ref tp, .int 0, .int 0, .int 0, .int 0]))]) (w1 := [(tp, .inr (9, [.ref by_, .int 0]))]) hP hD [1] [0] rfl rfl (by decide) (by decide) hk1 hFc hP1 hD1
  generalize H1 = H at hP hS ⊢
  have hP : va_P E.1 vwCl [(h0, .inr (10, [.ref tp, .int 0, .int 0, .int 0, .int 0])), (tp, .inr (9, [.ref by_, .int 0]))] H := hP
  have hD : va_D A [(h0, .inr (10, [.ref tp, .int 0, .int 0, .int 0, .int 0])), (tp, .inr (9, [.ref by_, .int 0]))] := hD
  obtain rfl : r3 = (-1) := hw4
  refine lv_istore_n (lv' := [(1, .int (-1)), (0, .ref h0)]) hx hb dX10_advance_23 rfl hl (by decide) rfl (fun ls hl => ?_)
  refine lv_iload_n hx hb dX10_advance_24 rfl (lv_at hl 0 rfl) ?_
  refine lv_iconst (v := (-1)) hx hb dX10_advance_25 (by decide) ?_
  refine lv_icmp_ne (tgt := 37) hx hb dX10_advance_26 (by decide) (fun c9 => absurd c9 (by decide)) (fun _ => ?_)
  refine lv_aload_n hx hb dX10_advance_29 rfl (lv_at hl 1 rfl) ?_
  refine lv_iconst (v := 0) hx hb dX10_advance_30 (by decide) ?_
  refine va_put (D := E.1) (ci := 10) (v := .int 0) (ty := .int) (C := RX10) (T := TX10) (N := 5) hx hb hts inX10 tyX10 tyX10_ok nmX10 hown hK hP hD hS 0 rfl rfl 1 (by decide) fl11 (fun _ h9 => h9) rfl (by decide +kernel) rfl rfl (Nat.le_of_ble_eq_true rfl) dX10_advance_31 (fun H locs hP hD hS => ?_)
  have hP : va_P E.1 vwCl [(h0, .inr (10, [.ref tp, .int 0, .int 0, .int 0, .int 0])), (tp, .inr (9, [.ref by_, .int 0]))] H := hP
  have hD : va_D A [(h0, .inr (10, [.ref tp, .int 0, .int 0, .int 0, .int 0])), (tp, .inr (9, [.ref by_, .int 0]))] := hD
  refine lv_goto (tgt := 90) hx hb dX10_advance_34 (by decide) ?_
  have hP9 := hP.sub (ws' := [(h0, .inr (10, [.ref tp, .int 0, .int 0, .int 0, .int 0])), (tp, .inr (9, [.ref by_, .int 0]))]) [0, 1] rfl
  have hD9 := hD.sub (ws' := [(h0, .inr (10, [.ref tp, .int 0, .int 0, .int 0, .int 0])), (tp, .inr (9, [.ref by_, .int 0]))]) [0, 1] (by decide) rfl
  exact W.vret hx hb hr (fun t ht hW => ⟨⟨(), rfl, trivial, by rw [ht]; exact hP9, hD9⟩, hS.F ht⟩) hS.2.2 dX10_advance_90
set_option maxHeartbeats 4000000 in
set_option maxRecDepth 100000 in
theorem c_X10_restart (l : Launch) (E : vE) (h0 : Nat) (tp : Nat) (by_ : Nat) (sz : Nat) : Met l yX10_restart wsX10_restart ({ frames := 2, cells := 0, slots := 0, locals := 42 }) (pcW E [.ref h0] sz [(h0, .inr (10, [.ref tp, .int 0, .int 0, .int 0, .int 0])), (tp, .inr (9, [.ref by_, .int 0]))]) (va_Qv (fun (_ : Unit) => True) (fun (_ : Unit) (t : State) => wB E (va_A [(h0, .inr (10, [.ref tp, .int 0, .int 0, .int 0, .int 0])), (tp, .inr (9, [.ref by_, .int 0]))] sz) [(h0, .inr (10, [.ref tp, .int 0, .int 0, .int 0, .int 0])), (tp, .inr (9, [.ref by_, .int 0]))] t) (va_A [(h0, .inr (10, [.ref tp, .int 0, .int 0, .int 0, .int 0])), (tp, .inr (9, [.ref by_, .int 0]))] sz)) 0 0 (va_A [(h0, .inr (10, [.ref tp, .int 0, .int 0, .int 0, .int 0])), (tp, .inr (9, [.ref by_, .int 0]))] sz) := by
  refine Met.ofW (cc := cX10_restart) (maxL := 1) (ret := none) (by decide) rfl ?_
  intro p e s m args below meth c s₁ B hml hv
  obtain ⟨rfl, hsz, hP, hkn, hD0, hst⟩ := hv
  have hx := B.exec
  have hb := B.bytes
  have hr := B.returns
  have hts := atoms_spec (ws := wsX10_restart) B.pre
  have hown : s.vm.findClass RX10 = some m.cls := findClass_of_methodNamed B.named
  have hlocks := B.notSynchronized
  subst hsz
  have hD := hD0.self (sz := s.heap.size)
  have hK := hkn.1
  have hAO := hkn.2.2
  generalize hAe : va_A [(h0, .inr (10, [.ref tp, .int 0, .int 0, .int 0, .int 0])), (tp, .inr (9, [.ref by_, .int 0]))] s.heap.size = A at hD hst ⊢
  have hA : ∀ q : Nat, s.heap.size ≤ q → A q := fun q h => by rw [← hAe]; exact Or.inr h
  have hS : va_S A s.heap s.heap [] := va_S.rf
  have hP : va_P E.1 vwCl [(h0, .inr (10, [.ref tp, .int 0, .int 0, .int 0, .int 0])), (tp, .inr (9, [.ref by_, .int 0]))] s.heap := hP
  have hl := lv_entry ([.ref h0]) (n := 1) (Nat.le_of_ble_eq_true rfl)
  rw [lg_entry_eq]
  generalize (lg_sl ([.ref h0]) ++ List.replicate (1 - (lg_sl ([.ref h0])).length) Slot.unset).toArray = ls at hl ⊢
  have hl : lv_has ls 1 [(0, .ref h0)] := hl
  have fl21 := hts (.fieldLink RX10 21 "BoatsHome$Tokens" "behind" "I") (by decide +kernel)
  have inX10 : ∀ w ∈ u_ws RX10 TX10 5, w ∈ wsX10_restart := by decide +kernel
  refine lv_aload_n hx hb dX10_restart_0 rfl (lv_at hl 0 rfl) ?_
  refine lv_iconst (v := 0) hx hb dX10_restart_1 (by decide) ?_
  refine va_put (D := E.1) (ci := 10) (v := .int 0) (ty := .int) (C := RX10) (T := TX10) (N := 5) hx hb hts inX10 tyX10 tyX10_ok nmX10 hown hK hP hD hS 0 rfl rfl 4 (by decide) fl21 (fun _ h9 => h9) rfl (by decide +kernel) rfl rfl (Nat.le_of_ble_eq_true rfl) dX10_restart_2 (fun H locs hP hD hS => ?_)
  have hP : va_P E.1 vwCl [(h0, .inr (10, [.ref tp, .int 0, .int 0, .int 0, .int 0])), (tp, .inr (9, [.ref by_, .int 0]))] H := hP
  have hD : va_D A [(h0, .inr (10, [.ref tp, .int 0, .int 0, .int 0, .int 0])), (tp, .inr (9, [.ref by_, .int 0]))] := hD
  refine lv_aload_n hx hb dX10_restart_5 rfl (lv_at hl 0 rfl) ?_
  have hPc := hP.sub (ws' := [(h0, .inr (10, [.ref tp, .int 0, .int 0, .int 0, .int 0])), (tp, .inr (9, [.ref by_, .int 0]))]) [0, 1] rfl
  have hDc := hD.sub (ws' := [(h0, .inr (10, [.ref tp, .int 0, .int 0, .int 0, .int 0])), (tp, .inr (9, [.ref by_, .int 0]))]) [0, 1] (by decide) rfl
  have hFc := va_free (wc := [(h0, .inr (10, [.ref tp, .int 0, .int 0, .int 0, .int 0])), (tp, .inr (9, [.ref by_, .int 0]))]) hD hS hA [0, 1] rfl
  refine va_callv (va_runV (As := []) (rest := []) ⟨hx, hb, hml, hown, hts⟩ (c_X10_advance l E h0 tp by_ H.size ) (cwV 0 hts gX10_restart_X10_advance rfl rfl rfl (by decide +kernel) ⟨Nat.le_of_ble_eq_true rfl, Nat.le_of_ble_eq_true rfl⟩) ⟨pcW_blind, va_recv hK hPc (ci := 10) (q0 := 0) rfl rfl, (pcW_pre hPc hkn hDc hst hS hFc)⟩ rfl rfl hl.1 rfl (lv_room (Nat.le_of_ble_eq_true rfl)) dX10_restart_6 ⟨Nat.le_of_ble_eq_true rfl, Nat.le_of_ble_eq_true rfl⟩) hS (fun q _ h => hFc q h) hFc (fun u t H1 locs ht hvm hw2 hB hz1 hk1 hS => ?_)
  obtain ⟨hP1, hD1⟩ := hB
  rw [ht] at hP1
  try dsimp only at hw2
  obtain ⟨hP, hD⟩ := va_join (wr := []) (w1 := [(h0, .inr (10, [.ref tp, .int 0, .int 0, .int 0, .int 0])), (tp, .inr (9, [.ref by_, .int 0]))]) hP hD [0, 1] [] rfl rfl (by decide) (by decide) hk1 hFc hP1 hD1
  generalize H1 = H at hP hS ⊢
  have hP : va_P E.1 vwCl [(h0, .inr (10, [.ref tp, .int 0, .int 0, .int 0, .int 0])), (tp, .inr (9, [.ref by_, .int 0]))] H := hP
  have hD : va_D A [(h0, .inr (10, [.ref tp, .int 0, .int 0, .int 0, .int 0])), (tp, .inr (9, [.ref by_, .int 0]))] := hD
  have hP9 := hP.sub (ws' := [(h0, .inr (10, [.ref tp, .int 0, .int 0, .int 0, .int 0])), (tp, .inr (9, [.ref by_, .int 0]))]) [0, 1] rfl
  have hD9 := hD.sub (ws' := [(h0, .inr (10, [.ref tp, .int 0, .int 0, .int 0, .int 0])), (tp, .inr (9, [.ref by_, .int 0]))]) [0, 1] (by decide) rfl
  exact W.vret hx hb hr (fun t ht hW => ⟨⟨(), rfl, trivial, by rw [ht]; exact hP9, hD9⟩, hS.F ht⟩) hS.2.2 dX10_restart_9
set_option maxHeartbeats 4000000 in
set_option maxRecDepth 100000 in
theorem c_X6_beginText (l : Launch) (E : vE) (h0 : Nat) (tk : Nat) (tp : Nat) (by_ : Nat) (sz : Nat) : Met l yX6_beginText wsX6_beginText ({ frames := 3, cells := 0, slots := 0, locals := 62 }) (pcW E [.ref h0] sz [(h0, .inr (6, [.ref tk, .int 0, .int (-1)])), (tk, .inr (10, [.ref tp, .int 0, .int 0, .int 0, .int 0])), (tp, .inr (9, [.ref by_, .int 0]))]) (va_Qv (fun (_ : Unit) => True) (fun (_ : Unit) (t : State) => wB E (va_A [(h0, .inr (6, [.ref tk, .int 0, .int (-1)])), (tk, .inr (10, [.ref tp, .int 0, .int 0, .int 0, .int 0])), (tp, .inr (9, [.ref by_, .int 0]))] sz) [(h0, .inr (6, [.ref tk, .int 0, .int (-1)])), (tk, .inr (10, [.ref tp, .int 0, .int 0, .int 0, .int 0])), (tp, .inr (9, [.ref by_, .int 0]))] t) (va_A [(h0, .inr (6, [.ref tk, .int 0, .int (-1)])), (tk, .inr (10, [.ref tp, .int 0, .int 0, .int 0, .int 0])), (tp, .inr (9, [.ref by_, .int 0]))] sz)) 0 0 (va_A [(h0, .inr (6, [.ref tk, .int 0, .int (-1)])), (tk, .inr (10, [.ref tp, .int 0, .int 0, .int 0, .int 0])), (tp, .inr (9, [.ref by_, .int 0]))] sz) := by
  refine Met.ofW (cc := cX6_beginText) (maxL := 1) (ret := none) (by decide) rfl ?_
  intro p e s m args below meth c s₁ B hml hv
  obtain ⟨rfl, hsz, hP, hkn, hD0, hst⟩ := hv
  have hx := B.exec
  have hb := B.bytes
  have hr := B.returns
  have hts := atoms_spec (ws := wsX6_beginText) B.pre
  have hown : s.vm.findClass RX6 = some m.cls := findClass_of_methodNamed B.named
  have hlocks := B.notSynchronized
  subst hsz
  have hD := hD0.self (sz := s.heap.size)
  have hK := hkn.1
  have hAO := hkn.2.2
  generalize hAe : va_A [(h0, .inr (6, [.ref tk, .int 0, .int (-1)])), (tk, .inr (10, [.ref tp, .int 0, .int 0, .int 0, .int 0])), (tp, .inr (9, [.ref by_, .int 0]))] s.heap.size = A at hD hst ⊢
  have hA : ∀ q : Nat, s.heap.size ≤ q → A q := fun q h => by rw [← hAe]; exact Or.inr h
  have hS : va_S A s.heap s.heap [] := va_S.rf
  have hP : va_P E.1 vwCl [(h0, .inr (6, [.ref tk, .int 0, .int (-1)])), (tk, .inr (10, [.ref tp, .int 0, .int 0, .int 0, .int 0])), (tp, .inr (9, [.ref by_, .int 0]))] s.heap := hP
  have hl := lv_entry ([.ref h0]) (n := 1) (Nat.le_of_ble_eq_true rfl)
  rw [lg_entry_eq]
  generalize (lg_sl ([.ref h0]) ++ List.replicate (1 - (lg_sl ([.ref h0])).length) Slot.unset).toArray = ls at hl ⊢
  have hl : lv_has ls 1 [(0, .ref h0)] := hl
  have fl9 := hts (.fieldLink RX6 9 "BoatsHome$Reader" "faultKind" "I") (by decide +kernel)
  have fl15 := hts (.fieldLink RX6 15 "BoatsHome$Reader" "faultPlace" "I") (by decide +kernel)
  have fl23 := hts (.fieldLink RX6 23 "BoatsHome$Reader" "tokens" "LBoatsHome$Tokens;") (by decide +kernel)
  have inX6 : ∀ w ∈ u_ws RX6 TX6 3, w ∈ wsX6_beginText := by decide +kernel
  refine lv_aload_n hx hb dX6_beginText_0 rfl (lv_at hl 0 rfl) ?_
  refine lv_iconst (v := 0) hx hb dX6_beginText_1 (by decide) ?_
  refine va_put (D := E.1) (ci := 6) (v := .int 0) (ty := .int) (C := RX6) (T := TX6) (N := 3) hx hb hts inX6 tyX6 tyX6_ok nmX6 hown hK hP hD hS 0 rfl rfl 1 (by decide) fl9 (fun _ h9 => h9) rfl (by decide +kernel) rfl rfl (Nat.le_of_ble_eq_true rfl) dX6_beginText_2 (fun H locs hP hD hS => ?_)
  have hP : va_P E.1 vwCl [(h0, .inr (6, [.ref tk, .int 0, .int (-1)])), (tk, .inr (10, [.ref tp, .int 0, .int 0, .int 0, .int 0])), (tp, .inr (9, [.ref by_, .int 0]))] H := hP
  have hD : va_D A [(h0, .inr (6, [.ref tk, .int 0, .int (-1)])), (tk, .inr (10, [.ref tp, .int 0, .int 0, .int 0, .int 0])), (tp, .inr (9, [.ref by_, .int 0]))] := hD
  refine lv_aload_n hx hb dX6_beginText_5 rfl (lv_at hl 0 rfl) ?_
  refine lv_iconst (v := (-1)) hx hb dX6_beginText_6 (by decide) ?_
  refine va_put (D := E.1) (ci := 6) (v := .int (-1)) (ty := .int) (C := RX6) (T := TX6) (N := 3) hx hb hts inX6 tyX6 tyX6_ok nmX6 hown hK hP hD hS 0 rfl rfl 2 (by decide) fl15 (fun _ h9 => h9) rfl (by decide +kernel) rfl rfl (Nat.le_of_ble_eq_true rfl) dX6_beginText_7 (fun H locs hP hD hS => ?_)
  have hP : va_P E.1 vwCl [(h0, .inr (6, [.ref tk, .int 0, .int (-1)])), (tk, .inr (10, [.ref tp, .int 0, .int 0, .int 0, .int 0])), (tp, .inr (9, [.ref by_, .int 0]))] H := hP
  have hD : va_D A [(h0, .inr (6, [.ref tk, .int 0, .int (-1)])), (tk, .inr (10, [.ref tp, .int 0, .int 0, .int 0, .int 0])), (tp, .inr (9, [.ref by_, .int 0]))] := hD
  refine lv_aload_n hx hb dX6_beginText_10 rfl (lv_at hl 0 rfl) ?_
  refine va_get (D := E.1) (ci := 6) (v := .ref tk) (C := RX6) (T := TX6) (N := 3) hx hb hts inX6 hown hK hP 0 rfl rfl 0 (by decide) fl23 (fun _ h9 => h9) rfl dX6_beginText_11 ?_
  have hPc := hP.sub (ws' := [(tk, .inr (10, [.ref tp, .int 0, .int 0, .int 0, .int 0])), (tp, .inr (9, [.ref by_, .int 0]))]) [1, 2] rfl
  have hDc := hD.sub (ws' := [(tk, .inr (10, [.ref tp, .int 0, .int 0, .int 0, .int 0])), (tp, .inr (9, [.ref by_, .int 0]))]) [1, 2] (by decide) rfl
  have hFc := va_free (wc := [(tk, .inr (10, [.ref tp, .int 0, .int 0, .int 0, .int 0])), (tp, .inr (9, [.ref by_, .int 0]))]) hD hS hA [1, 2] rfl
  refine va_callv (va_runV (As := []) (rest := []) ⟨hx, hb, hml, hown, hts⟩ (c_X10_restart l E tk tp by_ H.size ) (cwV 0 hts gX6_beginText_X10_restart rfl rfl rfl (by decide +kernel) ⟨Nat.le_of_ble_eq_true rfl, Nat.le_of_ble_eq_true rfl⟩) ⟨pcW_blind, va_recv hK hPc (ci := 10) (q0 := 0) rfl rfl, (pcW_pre hPc hkn hDc hst hS hFc)⟩ rfl rfl hl.1 rfl (lv_room (Nat.le_of_ble_eq_true rfl)) dX6_beginText_14 ⟨Nat.le_of_ble_eq_true rfl, Nat.le_of_ble_eq_true rfl⟩) hS (fun q _ h => hFc q h) hFc (fun u t H1 locs ht hvm hw2 hB hz1 hk1 hS => ?_)
  obtain ⟨hP1, hD1⟩ := hB
  rw [ht] at hP1
  try dsimp only at hw2
  obtain ⟨hP, hD⟩ := va_join (wr := [(h0, .inr (6, [.ref tk, .int 0, .int (-1)]))]) (w1 := [(tk, .inr (10, [.ref tp, .int 0, .int 0, .int 0, .int 0])), (tp, .inr (9, [.ref by_, .int 0]))]) hP hD [1, 2] [0] rfl rfl (by decide) (by decide) hk1 hFc hP1 hD1
  generalize H1 = H at hP hS ⊢
  have hP : va_P E.1 vwCl [(h0, .inr (6, [.ref tk, .int 0, .int (-1)])), (tk, .inr (10, [.ref tp, .int 0, .int 0, .int 0, .int 0])), (tp, .inr (9, [.ref by_, .int 0]))] H := hP
  have hD : va_D A [(h0, .inr (6, [.ref tk, .int 0, .int (-1)])), (tk, .inr (10, [.ref tp, .int 0, .int 0, .int 0, .int 0])), (tp, .inr (9, [.ref by_, .int 0]))] := hD
  have hP9 := hP.sub (ws' := [(h0, .inr (6, [.ref tk, .int 0, .int (-1)])), (tk, .inr (10, [.ref tp, .int 0, .int 0, .int 0, .int 0])), (tp, .inr (9, [.ref by_, .int 0]))]) [0, 1, 2] rfl
  have hD9 := hD.sub (ws' := [(h0, .inr (6, [.ref tk, .int 0, .int (-1)])), (tk, .inr (10, [.ref tp, .int 0, .int 0, .int 0, .int 0])), (tp, .inr (9, [.ref by_, .int 0]))]) [0, 1, 2] (by decide) rfl
  exact W.vret hx hb hr (fun t ht hW => ⟨⟨(), rfl, trivial, by rw [ht]; exact hP9, hD9⟩, hS.F ht⟩) hS.2.2 dX6_beginText_17
set_option maxHeartbeats 4000000 in
set_option maxRecDepth 100000 in
theorem c_X6_readRules (l : Launch) (E : vE) (h0 : Nat) (into : Nat) (tk : Nat) (tp : Nat) (by_ : Nat) (s1 : Nat) (s2 : Nat) (s3 : Nat) (s4 : Nat) (sz : Nat) : Met l yX6_readRules wsX6_readRules ({ frames := 4, cells := 0, slots := 0, locals := 82 }) (pcW E [.ref h0, .ref into] sz [(h0, .inr (6, [.ref tk, .int 0, .int (-1)])), (tk, .inr (10, [.ref tp, .int 0, .int 0, .int 0, .int 0])), (tp, .inr (9, [.ref by_, .int 0])), (into, .inr (7, [.ref s1, .ref s2, .ref s3, .ref s4, .int 0]))]) (va_Qi (fun (r : Int32) (_ : Unit) => r = 1) (fun (_ : Unit) (t : State) => wB E (va_A [(h0, .inr (6, [.ref tk, .int 0, .int (-1)])), (tk, .inr (10, [.ref tp, .int 0, .int 0, .int 0, .int 0])), (tp, .inr (9, [.ref by_, .int 0])), (into, .inr (7, [.ref s1, .ref s2, .ref s3, .ref s4, .int 0]))] sz) [(h0, .inr (6, [.ref tk, .int 0, .int (-1)])), (tk, .inr (10, [.ref tp, .int 0, .int 0, .int 0, .int 0])), (tp, .inr (9, [.ref by_, .int 0])), (into, .inr (7, [.ref s1, .ref s2, .ref s3, .ref s4, .int 0]))] t) (va_A [(h0, .inr (6, [.ref tk, .int 0, .int (-1)])), (tk, .inr (10, [.ref tp, .int 0, .int 0, .int 0, .int 0])), (tp, .inr (9, [.ref by_, .int 0])), (into, .inr (7, [.ref s1, .ref s2, .ref s3, .ref s4, .int 0]))] sz)) 0 0 (va_A [(h0, .inr (6, [.ref tk, .int 0, .int (-1)])), (tk, .inr (10, [.ref tp, .int 0, .int 0, .int 0, .int 0])), (tp, .inr (9, [.ref by_, .int 0])), (into, .inr (7, [.ref s1, .ref s2, .ref s3, .ref s4, .int 0]))] sz) := by
  refine Met.ofW (cc := cX6_readRules) (maxL := 3) (ret := (some .boolean)) (by decide) rfl ?_
  intro p e s m args below meth c s₁ B hml hv
  obtain ⟨rfl, hsz, hP, hkn, hD0, hst⟩ := hv
  have hx := B.exec
  have hb := B.bytes
  have hr := B.returns
  have hts := atoms_spec (ws := wsX6_readRules) B.pre
  have hown : s.vm.findClass RX6 = some m.cls := findClass_of_methodNamed B.named
  have hlocks := B.notSynchronized
  subst hsz
  have hD := hD0.self (sz := s.heap.size)
  have hK := hkn.1
  have hAO := hkn.2.2
  generalize hAe : va_A [(h0, .inr (6, [.ref tk, .int 0, .int (-1)])), (tk, .inr (10, [.ref tp, .int 0, .int 0, .int 0, .int 0])), (tp, .inr (9, [.ref by_, .int 0])), (into, .inr (7, [.ref s1, .ref s2, .ref s3, .ref s4, .int 0]))] s.heap.size = A at hD hst ⊢
  have hA : ∀ q : Nat, s.heap.size ≤ q → A q := fun q h => by rw [← hAe]; exact Or.inr h
  have hS : va_S A s.heap s.heap [] := va_S.rf
  have hP : va_P E.1 vwCl [(h0, .inr (6, [.ref tk, .int 0, .int (-1)])), (tk, .inr (10, [.ref tp, .int 0, .int 0, .int 0, .int 0])), (tp, .inr (9, [.ref by_, .int 0])), (into, .inr (7, [.ref s1, .ref s2, .ref s3, .ref s4, .int 0]))] s.heap := hP
  have hl := lv_entry ([.ref h0, .ref into]) (n := 3) (Nat.le_of_ble_eq_true rfl)
  rw [lg_entry_eq]
  generalize (lg_sl ([.ref h0, .ref into]) ++ List.replicate (3 - (lg_sl ([.ref h0, .ref into])).length) Slot.unset).toArray = ls at hl ⊢
  have hl : lv_has ls 3 [(0, .ref h0), (1, .ref into)] := hl
  have fl23 := hts (.fieldLink RX6 23 "BoatsHome$Reader" "tokens" "LBoatsHome$Tokens;") (by decide +kernel)
  have fl27 := hts (.fieldLink RX6 27 "BoatsHome$Rules" "size" "I") (by decide +kernel)
  have fl35 := hts (.fieldLink RX6 35 "BoatsHome$Tokens" "kind" "I") (by decide +kernel)
  have inX10 : ∀ w ∈ u_ws RX10 TX10 5, w ∈ wsX6_readRules := by decide +kernel
  have inX6 : ∀ w ∈ u_ws RX6 TX6 3, w ∈ wsX6_readRules := by decide +kernel
  have inX7 : ∀ w ∈ u_ws RX7 TX7 5, w ∈ wsX6_readRules := by decide +kernel
  refine lv_aload_n hx hb dX6_readRules_0 rfl (lv_at hl 1 rfl) ?_
  refine lv_iconst (v := 0) hx hb dX6_readRules_1 (by decide) ?_
  refine va_put (D := E.1) (ci := 7) (v := .int 0) (ty := .int) (C := RX7) (T := TX7) (N := 5) hx hb hts inX7 tyX7 tyX7_ok nmX7 hown hK hP hD hS 3 rfl rfl 4 (by decide) fl27 (fun _ h9 => h9) rfl (by decide +kernel) rfl rfl (Nat.le_of_ble_eq_true rfl) dX6_readRules_2 (fun H locs hP hD hS => ?_)
  have hP : va_P E.1 vwCl [(h0, .inr (6, [.ref tk, .int 0, .int (-1)])), (tk, .inr (10, [.ref tp, .int 0, .int 0, .int 0, .int 0])), (tp, .inr (9, [.ref by_, .int 0])), (into, .inr (7, [.ref s1, .ref s2, .ref s3, .ref s4, .int 0]))] H := hP
  have hD : va_D A [(h0, .inr (6, [.ref tk, .int 0, .int (-1)])), (tk, .inr (10, [.ref tp, .int 0, .int 0, .int 0, .int 0])), (tp, .inr (9, [.ref by_, .int 0])), (into, .inr (7, [.ref s1, .ref s2, .ref s3, .ref s4, .int 0]))] := hD
  refine lv_aload_n hx hb dX6_readRules_5 rfl (lv_at hl 0 rfl) ?_
  have hPc := hP.sub (ws' := [(h0, .inr (6, [.ref tk, .int 0, .int (-1)])), (tk, .inr (10, [.ref tp, .int 0, .int 0, .int 0, .int 0])), (tp, .inr (9, [.ref by_, .int 0]))]) [0, 1, 2] rfl
  have hDc := hD.sub (ws' := [(h0, .inr (6, [.ref tk, .int 0, .int (-1)])), (tk, .inr (10, [.ref tp, .int 0, .int 0, .int 0, .int 0])), (tp, .inr (9, [.ref by_, .int 0]))]) [0, 1, 2] (by decide) rfl
  have hFc := va_free (wc := [(h0, .inr (6, [.ref tk, .int 0, .int (-1)])), (tk, .inr (10, [.ref tp, .int 0, .int 0, .int 0, .int 0])), (tp, .inr (9, [.ref by_, .int 0]))]) hD hS hA [0, 1, 2] rfl
  refine va_callv (va_runV (As := []) (rest := []) ⟨hx, hb, hml, hown, hts⟩ (c_X6_beginText l E h0 tk tp by_ H.size ) (cwV 0 hts gX6_readRules_X6_beginText rfl rfl rfl (by decide +kernel) ⟨Nat.le_of_ble_eq_true rfl, Nat.le_of_ble_eq_true rfl⟩) ⟨pcW_blind, va_recv hK hPc (ci := 6) (q0 := 0) rfl rfl, (pcW_pre hPc hkn hDc hst hS hFc)⟩ rfl rfl hl.1 rfl (lv_room (Nat.le_of_ble_eq_true rfl)) dX6_readRules_6 ⟨Nat.le_of_ble_eq_true rfl, Nat.le_of_ble_eq_true rfl⟩) hS (fun q _ h => hFc q h) hFc (fun u t H1 locs ht hvm hw2 hB hz1 hk1 hS => ?_)
  obtain ⟨hP1, hD1⟩ := hB
  rw [ht] at hP1
  try dsimp only at hw2
  obtain ⟨hP, hD⟩ := va_join (wr := [(into, .inr (7, [.ref s1, .ref s2, .ref s3, .ref s4, .int 0]))]) (w1 := [(h0, .inr (6, [.ref tk, .int 0, .int (-1)])), (tk, .inr (10, [.ref tp, .int 0, .int 0, .int 0, .int 0])), (tp, .inr (9, [.ref by_, .int 0]))]) hP hD [0, 1, 2] [3] rfl rfl (by decide) (by decide) hk1 hFc hP1 hD1
  generalize H1 = H at hP hS ⊢
  have hP : va_P E.1 vwCl [(into, .inr (7, [.ref s1, .ref s2, .ref s3, .ref s4, .int 0])), (h0, .inr (6, [.ref tk, .int 0, .int (-1)])), (tk, .inr (10, [.ref tp, .int 0, .int 0, .int 0, .int 0])), (tp, .inr (9, [.ref by_, .int 0]))] H := hP
  have hD : va_D A [(into, .inr (7, [.ref s1, .ref s2, .ref s3, .ref s4, .int 0])), (h0, .inr (6, [.ref tk, .int 0, .int (-1)])), (tk, .inr (10, [.ref tp, .int 0, .int 0, .int 0, .int 0])), (tp, .inr (9, [.ref by_, .int 0]))] := hD
  refine lv_iconst (v := 0) hx hb dX6_readRules_9 (by decide) ?_
  refine lv_istore_n (lv' := [(2, .int 0), (0, .ref h0), (1, .ref into)]) hx hb dX6_readRules_10 rfl hl (by decide) rfl (fun ls hl => ?_)
  refine lv_iload_n hx hb dX6_readRules_11 rfl (lv_at hl 0 rfl) ?_
  refine lv_sipush (v := 800) hx hb dX6_readRules_12 (by decide) ?_
  refine lv_icmp_gt (tgt := 44) hx hb dX6_readRules_15 (by decide) (fun c9 => absurd c9 (by decide)) (fun _ => ?_)
  refine lv_aload_n hx hb dX6_readRules_18 rfl (lv_at hl 1 rfl) ?_
  refine va_get (D := E.1) (ci := 6) (v := .ref tk) (C := RX6) (T := TX6) (N := 3) hx hb hts inX6 hown hK hP 1 rfl rfl 0 (by decide) fl23 (fun _ h9 => h9) rfl dX6_readRules_19 ?_
  refine va_get (D := E.1) (ci := 10) (v := .int 0) (C := RX10) (T := TX10) (N := 5) hx hb hts inX10 hown hK hP 2 rfl rfl 1 (by decide) fl35 (fun _ h9 => h9) rfl dX6_readRules_22 ?_
  refine lv_if_eq (tgt := 44) hx hb dX6_readRules_25 (by decide) (fun _ => ?_) (fun c9 => absurd c9 (by decide))
  refine lv_iconst (v := 1) hx hb dX6_readRules_44 (by decide) ?_
  have hP9 := hP.sub (ws' := [(h0, .inr (6, [.ref tk, .int 0, .int (-1)])), (tk, .inr (10, [.ref tp, .int 0, .int 0, .int 0, .int 0])), (tp, .inr (9, [.ref by_, .int 0])), (into, .inr (7, [.ref s1, .ref s2, .ref s3, .ref s4, .int 0]))]) [1, 2, 3, 0] rfl
  have hD9 := hD.sub (ws' := [(h0, .inr (6, [.ref tk, .int 0, .int (-1)])), (tk, .inr (10, [.ref tp, .int 0, .int 0, .int 0, .int 0])), (tp, .inr (9, [.ref by_, .int 0])), (into, .inr (7, [.ref s1, .ref s2, .ref s3, .ref s4, .int 0]))]) [1, 2, 3, 0] (by decide) rfl
  exact W.zret (v := 1) hx hb hr (by decide) (fun t ht hW => ⟨⟨1, (), rfl, rfl, by rw [ht]; exact hP9, hD9⟩, hS.F ht⟩) hS.2.2 dX6_readRules_45
set_option maxHeartbeats 4000000 in
set_option maxRecDepth 100000 in
theorem c_X1_clear (l : Launch) (E : vE) (h0 : Nat) (bx2 : Nat) (sz : Nat) : Met l yX1_clear wsX1_clear ({ frames := 0, cells := 0, slots := 0, locals := 0 }) (pcW E [.ref h0] sz [(h0, .inr (1, [.ref bx2, .int 0, .int 0, .int 9, .int 0]))]) (va_Qv (fun (_ : Unit) => True) (fun (_ : Unit) (t : State) => wB E (va_A [(h0, .inr (1, [.ref bx2, .int 0, .int 0, .int 9, .int 0]))] sz) [(h0, .inr (1, [.ref bx2, .int 0, .int (-1), .int (-1), .int 0]))] t) (va_A [(h0, .inr (1, [.ref bx2, .int 0, .int 0, .int 9, .int 0]))] sz)) 0 0 (va_A [(h0, .inr (1, [.ref bx2, .int 0, .int 0, .int 9, .int 0]))] sz) := by
  refine Met.ofW (cc := cX1_clear) (maxL := 1) (ret := none) (by decide) rfl ?_
  intro p e s m args below meth c s₁ B hml hv
  obtain ⟨rfl, hsz, hP, hkn, hD0, hst⟩ := hv
  have hx := B.exec
  have hb := B.bytes
  have hr := B.returns
  have hts := atoms_spec (ws := wsX1_clear) B.pre
  have hown : s.vm.findClass RX1 = some m.cls := findClass_of_methodNamed B.named
  have hlocks := B.notSynchronized
  subst hsz
  have hD := hD0.self (sz := s.heap.size)
  have hK := hkn.1
  have hAO := hkn.2.2
  generalize hAe : va_A [(h0, .inr (1, [.ref bx2, .int 0, .int 0, .int 9, .int 0]))] s.heap.size = A at hD hst ⊢
  have hA : ∀ q : Nat, s.heap.size ≤ q → A q := fun q h => by rw [← hAe]; exact Or.inr h
  have hS : va_S A s.heap s.heap [] := va_S.rf
  have hP : va_P E.1 vwCl [(h0, .inr (1, [.ref bx2, .int 0, .int 0, .int 9, .int 0]))] s.heap := hP
  have hl := lv_entry ([.ref h0]) (n := 1) (Nat.le_of_ble_eq_true rfl)
  rw [lg_entry_eq]
  generalize (lg_sl ([.ref h0]) ++ List.replicate (1 - (lg_sl ([.ref h0])).length) Slot.unset).toArray = ls at hl ⊢
  have hl : lv_has ls 1 [(0, .ref h0)] := hl
  have fl15 := hts (.fieldLink RX1 15 "BoatsHome$Cover" "boxCount" "I") (by decide +kernel)
  have fl19 := hts (.fieldLink RX1 19 "BoatsHome$Cover" "leastCrew" "I") (by decide +kernel)
  have fl22 := hts (.fieldLink RX1 22 "BoatsHome$Cover" "mostForce" "I") (by decide +kernel)
  have fl25 := hts (.fieldLink RX1 25 "BoatsHome$Cover" "lines" "I") (by decide +kernel)
  have inX1 : ∀ w ∈ u_ws RX1 TX1 5, w ∈ wsX1_clear := by decide +kernel
  refine lv_aload_n hx hb dX1_clear_0 rfl (lv_at hl 0 rfl) ?_
  refine lv_iconst (v := 0) hx hb dX1_clear_1 (by decide) ?_
  refine va_put (D := E.1) (ci := 1) (v := .int 0) (ty := .int) (C := RX1) (T := TX1) (N := 5) hx hb hts inX1 tyX1 tyX1_ok nmX1 hown hK hP hD hS 0 rfl rfl 1 (by decide) fl15 (fun _ h9 => h9) rfl (by decide +kernel) rfl rfl (Nat.le_of_ble_eq_true rfl) dX1_clear_2 (fun H locs hP hD hS => ?_)
  have hP : va_P E.1 vwCl [(h0, .inr (1, [.ref bx2, .int 0, .int 0, .int 9, .int 0]))] H := hP
  have hD : va_D A [(h0, .inr (1, [.ref bx2, .int 0, .int 0, .int 9, .int 0]))] := hD
  refine lv_aload_n hx hb dX1_clear_5 rfl (lv_at hl 0 rfl) ?_
  refine lv_iconst (v := (-1)) hx hb dX1_clear_6 (by decide) ?_
  refine va_put (D := E.1) (ci := 1) (v := .int (-1)) (ty := .int) (C := RX1) (T := TX1) (N := 5) hx hb hts inX1 tyX1 tyX1_ok nmX1 hown hK hP hD hS 0 rfl rfl 2 (by decide) fl19 (fun _ h9 => h9) rfl (by decide +kernel) rfl rfl (Nat.le_of_ble_eq_true rfl) dX1_clear_7 (fun H locs hP hD hS => ?_)
  have hP : va_P E.1 vwCl [(h0, .inr (1, [.ref bx2, .int 0, .int (-1), .int 9, .int 0]))] H := hP
  have hD : va_D A [(h0, .inr (1, [.ref bx2, .int 0, .int (-1), .int 9, .int 0]))] := hD
  refine lv_aload_n hx hb dX1_clear_10 rfl (lv_at hl 0 rfl) ?_
  refine lv_iconst (v := (-1)) hx hb dX1_clear_11 (by decide) ?_
  refine va_put (D := E.1) (ci := 1) (v := .int (-1)) (ty := .int) (C := RX1) (T := TX1) (N := 5) hx hb hts inX1 tyX1 tyX1_ok nmX1 hown hK hP hD hS 0 rfl rfl 3 (by decide) fl22 (fun _ h9 => h9) rfl (by decide +kernel) rfl rfl (Nat.le_of_ble_eq_true rfl) dX1_clear_12 (fun H locs hP hD hS => ?_)
  have hP : va_P E.1 vwCl [(h0, .inr (1, [.ref bx2, .int 0, .int (-1), .int (-1), .int 0]))] H := hP
  have hD : va_D A [(h0, .inr (1, [.ref bx2, .int 0, .int (-1), .int (-1), .int 0]))] := hD
  refine lv_aload_n hx hb dX1_clear_15 rfl (lv_at hl 0 rfl) ?_
  refine lv_iconst (v := 0) hx hb dX1_clear_16 (by decide) ?_
  refine va_put (D := E.1) (ci := 1) (v := .int 0) (ty := .int) (C := RX1) (T := TX1) (N := 5) hx hb hts inX1 tyX1 tyX1_ok nmX1 hown hK hP hD hS 0 rfl rfl 4 (by decide) fl25 (fun _ h9 => h9) rfl (by decide +kernel) rfl rfl (Nat.le_of_ble_eq_true rfl) dX1_clear_17 (fun H locs hP hD hS => ?_)
  have hP : va_P E.1 vwCl [(h0, .inr (1, [.ref bx2, .int 0, .int (-1), .int (-1), .int 0]))] H := hP
  have hD : va_D A [(h0, .inr (1, [.ref bx2, .int 0, .int (-1), .int (-1), .int 0]))] := hD
  have hP9 := hP.sub (ws' := [(h0, .inr (1, [.ref bx2, .int 0, .int (-1), .int (-1), .int 0]))]) [0] rfl
  have hD9 := hD.sub (ws' := [(h0, .inr (1, [.ref bx2, .int 0, .int (-1), .int (-1), .int 0]))]) [0] (by decide) rfl
  exact W.vret hx hb hr (fun t ht hW => ⟨⟨(), rfl, trivial, by rw [ht]; exact hP9, hD9⟩, hS.F ht⟩) hS.2.2 dX1_clear_20
set_option maxHeartbeats 4000000 in
set_option maxRecDepth 100000 in
theorem c_X1_fillUntold (l : Launch) (E : vE) (h0 : Nat) (bx2 : Nat) (sz : Nat) : Met l yX1_fillUntold wsX1_fillUntold ({ frames := 0, cells := 0, slots := 0, locals := 0 }) (pcW E [.ref h0] sz [(h0, .inr (1, [.ref bx2, .int 0, .int (-1), .int (-1), .int 0]))]) (va_Qv (fun (_ : Unit) => True) (fun (_ : Unit) (t : State) => wB E (va_A [(h0, .inr (1, [.ref bx2, .int 0, .int (-1), .int (-1), .int 0]))] sz) [(h0, .inr (1, [.ref bx2, .int 0, .int 0, .int 9, .int 0]))] t) (va_A [(h0, .inr (1, [.ref bx2, .int 0, .int (-1), .int (-1), .int 0]))] sz)) 0 0 (va_A [(h0, .inr (1, [.ref bx2, .int 0, .int (-1), .int (-1), .int 0]))] sz) := by
  refine Met.ofW (cc := cX1_fillUntold) (maxL := 1) (ret := none) (by decide) rfl ?_
  intro p e s m args below meth c s₁ B hml hv
  obtain ⟨rfl, hsz, hP, hkn, hD0, hst⟩ := hv
  have hx := B.exec
  have hb := B.bytes
  have hr := B.returns
  have hts := atoms_spec (ws := wsX1_fillUntold) B.pre
  have hown : s.vm.findClass RX1 = some m.cls := findClass_of_methodNamed B.named
  have hlocks := B.notSynchronized
  subst hsz
  have hD := hD0.self (sz := s.heap.size)
  have hK := hkn.1
  have hAO := hkn.2.2
  generalize hAe : va_A [(h0, .inr (1, [.ref bx2, .int 0, .int (-1), .int (-1), .int 0]))] s.heap.size = A at hD hst ⊢
  have hA : ∀ q : Nat, s.heap.size ≤ q → A q := fun q h => by rw [← hAe]; exact Or.inr h
  have hS : va_S A s.heap s.heap [] := va_S.rf
  have hP : va_P E.1 vwCl [(h0, .inr (1, [.ref bx2, .int 0, .int (-1), .int (-1), .int 0]))] s.heap := hP
  have hl := lv_entry ([.ref h0]) (n := 1) (Nat.le_of_ble_eq_true rfl)
  rw [lg_entry_eq]
  generalize (lg_sl ([.ref h0]) ++ List.replicate (1 - (lg_sl ([.ref h0])).length) Slot.unset).toArray = ls at hl ⊢
  have hl : lv_has ls 1 [(0, .ref h0)] := hl
  have fl19 := hts (.fieldLink RX1 19 "BoatsHome$Cover" "leastCrew" "I") (by decide +kernel)
  have fl22 := hts (.fieldLink RX1 22 "BoatsHome$Cover" "mostForce" "I") (by decide +kernel)
  have inX1 : ∀ w ∈ u_ws RX1 TX1 5, w ∈ wsX1_fillUntold := by decide +kernel
  refine lv_aload_n hx hb dX1_fillUntold_0 rfl (lv_at hl 0 rfl) ?_
  refine lv_aload_n hx hb dX1_fillUntold_1 rfl (lv_at hl 0 rfl) ?_
  refine va_get (D := E.1) (ci := 1) (v := .int (-1)) (C := RX1) (T := TX1) (N := 5) hx hb hts inX1 hown hK hP 0 rfl rfl 2 (by decide) fl19 (fun _ h9 => h9) rfl dX1_fillUntold_2 ?_
  refine lv_iconst (v := (-1)) hx hb dX1_fillUntold_5 (by decide) ?_
  refine lv_icmp_ne (tgt := 13) hx hb dX1_fillUntold_6 (by decide) (fun c9 => absurd c9 (by decide)) (fun _ => ?_)
  refine lv_iconst (v := 0) hx hb dX1_fillUntold_9 (by decide) ?_
  refine lv_goto (tgt := 17) hx hb dX1_fillUntold_10 (by decide) ?_
  refine va_put (D := E.1) (ci := 1) (v := .int 0) (ty := .int) (C := RX1) (T := TX1) (N := 5) hx hb hts inX1 tyX1 tyX1_ok nmX1 hown hK hP hD hS 0 rfl rfl 2 (by decide) fl19 (fun _ h9 => h9) rfl (by decide +kernel) rfl rfl (Nat.le_of_ble_eq_true rfl) dX1_fillUntold_17 (fun H locs hP hD hS => ?_)
  have hP : va_P E.1 vwCl [(h0, .inr (1, [.ref bx2, .int 0, .int 0, .int (-1), .int 0]))] H := hP
  have hD : va_D A [(h0, .inr (1, [.ref bx2, .int 0, .int 0, .int (-1), .int 0]))] := hD
  refine lv_aload_n hx hb dX1_fillUntold_20 rfl (lv_at hl 0 rfl) ?_
  refine lv_aload_n hx hb dX1_fillUntold_21 rfl (lv_at hl 0 rfl) ?_
  refine va_get (D := E.1) (ci := 1) (v := .int (-1)) (C := RX1) (T := TX1) (N := 5) hx hb hts inX1 hown hK hP 0 rfl rfl 3 (by decide) fl22 (fun _ h9 => h9) rfl dX1_fillUntold_22 ?_
  refine lv_iconst (v := (-1)) hx hb dX1_fillUntold_25 (by decide) ?_
  refine lv_icmp_ne (tgt := 34) hx hb dX1_fillUntold_26 (by decide) (fun c9 => absurd c9 (by decide)) (fun _ => ?_)
  refine lv_bipush (v := 9) hx hb dX1_fillUntold_29 (by decide) ?_
  refine lv_goto (tgt := 38) hx hb dX1_fillUntold_31 (by decide) ?_
  refine va_put (D := E.1) (ci := 1) (v := .int 9) (ty := .int) (C := RX1) (T := TX1) (N := 5) hx hb hts inX1 tyX1 tyX1_ok nmX1 hown hK hP hD hS 0 rfl rfl 3 (by decide) fl22 (fun _ h9 => h9) rfl (by decide +kernel) rfl rfl (Nat.le_of_ble_eq_true rfl) dX1_fillUntold_38 (fun H locs hP hD hS => ?_)
  have hP : va_P E.1 vwCl [(h0, .inr (1, [.ref bx2, .int 0, .int 0, .int 9, .int 0]))] H := hP
  have hD : va_D A [(h0, .inr (1, [.ref bx2, .int 0, .int 0, .int 9, .int 0]))] := hD
  have hP9 := hP.sub (ws' := [(h0, .inr (1, [.ref bx2, .int 0, .int 0, .int 9, .int 0]))]) [0] rfl
  have hD9 := hD.sub (ws' := [(h0, .inr (1, [.ref bx2, .int 0, .int 0, .int 9, .int 0]))]) [0] (by decide) rfl
  exact W.vret hx hb hr (fun t ht hW => ⟨⟨(), rfl, trivial, by rw [ht]; exact hP9, hD9⟩, hS.F ht⟩) hS.2.2 dX1_fillUntold_41
set_option maxHeartbeats 4000000 in
set_option maxRecDepth 100000 in
theorem c_X6_readCover (l : Launch) (E : vE) (h0 : Nat) (into : Nat) (tk : Nat) (tp : Nat) (by_ : Nat) (bx2 : Nat) (sz : Nat) : Met l yX6_readCover wsX6_readCover ({ frames := 4, cells := 0, slots := 0, locals := 82 }) (pcW E [.ref h0, .ref into] sz [(h0, .inr (6, [.ref tk, .int 0, .int (-1)])), (tk, .inr (10, [.ref tp, .int 0, .int 0, .int 0, .int 0])), (tp, .inr (9, [.ref by_, .int 0])), (into, .inr (1, [.ref bx2, .int 0, .int 0, .int 9, .int 0]))]) (va_Qi (fun (r : Int32) (_ : Unit) => r = 1) (fun (_ : Unit) (t : State) => wB E (va_A [(h0, .inr (6, [.ref tk, .int 0, .int (-1)])), (tk, .inr (10, [.ref tp, .int 0, .int 0, .int 0, .int 0])), (tp, .inr (9, [.ref by_, .int 0])), (into, .inr (1, [.ref bx2, .int 0, .int 0, .int 9, .int 0]))] sz) [(h0, .inr (6, [.ref tk, .int 0, .int (-1)])), (tk, .inr (10, [.ref tp, .int 0, .int 0, .int 0, .int 0])), (tp, .inr (9, [.ref by_, .int 0])), (into, .inr (1, [.ref bx2, .int 0, .int 0, .int 9, .int 0]))] t) (va_A [(h0, .inr (6, [.ref tk, .int 0, .int (-1)])), (tk, .inr (10, [.ref tp, .int 0, .int 0, .int 0, .int 0])), (tp, .inr (9, [.ref by_, .int 0])), (into, .inr (1, [.ref bx2, .int 0, .int 0, .int 9, .int 0]))] sz)) 0 0 (va_A [(h0, .inr (6, [.ref tk, .int 0, .int (-1)])), (tk, .inr (10, [.ref tp, .int 0, .int 0, .int 0, .int 0])), (tp, .inr (9, [.ref by_, .int 0])), (into, .inr (1, [.ref bx2, .int 0, .int 0, .int 9, .int 0]))] sz) := by
  refine Met.ofW (cc := cX6_readCover) (maxL := 3) (ret := (some .boolean)) (by decide) rfl ?_
  intro p e s m args below meth c s₁ B hml hv
  obtain ⟨rfl, hsz, hP, hkn, hD0, hst⟩ := hv
  have hx := B.exec
  have hb := B.bytes
  have hr := B.returns
  have hts := atoms_spec (ws := wsX6_readCover) B.pre
  have hown : s.vm.findClass RX6 = some m.cls := findClass_of_methodNamed B.named
  have hlocks := B.notSynchronized
  subst hsz
  have hD := hD0.self (sz := s.heap.size)
  have hK := hkn.1
  have hAO := hkn.2.2
  generalize hAe : va_A [(h0, .inr (6, [.ref tk, .int 0, .int (-1)])), (tk, .inr (10, [.ref tp, .int 0, .int 0, .int 0, .int 0])), (tp, .inr (9, [.ref by_, .int 0])), (into, .inr (1, [.ref bx2, .int 0, .int 0, .int 9, .int 0]))] s.heap.size = A at hD hst ⊢
  have hA : ∀ q : Nat, s.heap.size ≤ q → A q := fun q h => by rw [← hAe]; exact Or.inr h
  have hS : va_S A s.heap s.heap [] := va_S.rf
  have hP : va_P E.1 vwCl [(h0, .inr (6, [.ref tk, .int 0, .int (-1)])), (tk, .inr (10, [.ref tp, .int 0, .int 0, .int 0, .int 0])), (tp, .inr (9, [.ref by_, .int 0])), (into, .inr (1, [.ref bx2, .int 0, .int 0, .int 9, .int 0]))] s.heap := hP
  have hl := lv_entry ([.ref h0, .ref into]) (n := 3) (Nat.le_of_ble_eq_true rfl)
  rw [lg_entry_eq]
  generalize (lg_sl ([.ref h0, .ref into]) ++ List.replicate (3 - (lg_sl ([.ref h0, .ref into])).length) Slot.unset).toArray = ls at hl ⊢
  have hl : lv_has ls 3 [(0, .ref h0), (1, .ref into)] := hl
  have fl23 := hts (.fieldLink RX6 23 "BoatsHome$Reader" "tokens" "LBoatsHome$Tokens;") (by decide +kernel)
  have fl35 := hts (.fieldLink RX6 35 "BoatsHome$Tokens" "kind" "I") (by decide +kernel)
  have fl55 := hts (.fieldLink RX6 55 "BoatsHome$Cover" "lines" "I") (by decide +kernel)
  have inX1 : ∀ w ∈ u_ws RX1 TX1 5, w ∈ wsX6_readCover := by decide +kernel
  have inX10 : ∀ w ∈ u_ws RX10 TX10 5, w ∈ wsX6_readCover := by decide +kernel
  have inX6 : ∀ w ∈ u_ws RX6 TX6 3, w ∈ wsX6_readCover := by decide +kernel
  refine lv_aload_n hx hb dX6_readCover_0 rfl (lv_at hl 1 rfl) ?_
  have hPc := hP.sub (ws' := [(into, .inr (1, [.ref bx2, .int 0, .int 0, .int 9, .int 0]))]) [3] rfl
  have hDc := hD.sub (ws' := [(into, .inr (1, [.ref bx2, .int 0, .int 0, .int 9, .int 0]))]) [3] (by decide) rfl
  have hFc := va_free (wc := [(into, .inr (1, [.ref bx2, .int 0, .int 0, .int 9, .int 0]))]) hD hS hA [3] rfl
  refine va_callv (va_runV (As := []) (rest := []) ⟨hx, hb, hml, hown, hts⟩ (c_X1_clear l E into bx2 s.heap.size ) (cwV 0 hts gX6_readCover_X1_clear rfl rfl rfl (by decide +kernel) ⟨Nat.le_of_ble_eq_true rfl, Nat.le_of_ble_eq_true rfl⟩) ⟨pcW_blind, va_recv hK hPc (ci := 1) (q0 := 0) rfl rfl, (pcW_pre hPc hkn hDc hst hS hFc)⟩ rfl rfl hl.1 rfl (lv_room (Nat.le_of_ble_eq_true rfl)) dX6_readCover_1 ⟨Nat.le_of_ble_eq_true rfl, Nat.le_of_ble_eq_true rfl⟩) hS (fun q _ h => hFc q h) hFc (fun u t H1 locs ht hvm hw2 hB hz1 hk1 hS => ?_)
  obtain ⟨hP1, hD1⟩ := hB
  rw [ht] at hP1
  try dsimp only at hw2
  obtain ⟨hP, hD⟩ := va_join (wr := [(h0, .inr (6, [.ref tk, .int 0, .int (-1)])), (tk, .inr (10, [.ref tp, .int 0, .int 0, .int 0, .int 0])), (tp, .inr (9, [.ref by_, .int 0]))]) (w1 := [(into, .inr (1, [.ref bx2, .int 0, .int (-1), .int (-1), .int 0]))]) hP hD [3] [0, 1, 2] rfl rfl (by decide) (by decide) hk1 hFc hP1 hD1
  generalize H1 = H at hP hS ⊢
  have hP : va_P E.1 vwCl [(h0, .inr (6, [.ref tk, .int 0, .int (-1)])), (tk, .inr (10, [.ref tp, .int 0, .int 0, .int 0, .int 0])), (tp, .inr (9, [.ref by_, .int 0])), (into, .inr (1, [.ref bx2, .int 0, .int (-1), .int (-1), .int 0]))] H := hP
  have hD : va_D A [(h0, .inr (6, [.ref tk, .int 0, .int (-1)])), (tk, .inr (10, [.ref tp, .int 0, .int 0, .int 0, .int 0])), (tp, .inr (9, [.ref by_, .int 0])), (into, .inr (1, [.ref bx2, .int 0, .int (-1), .int (-1), .int 0]))] := hD
  refine lv_aload_n hx hb dX6_readCover_4 rfl (lv_at hl 0 rfl) ?_
  have hPc := hP.sub (ws' := [(h0, .inr (6, [.ref tk, .int 0, .int (-1)])), (tk, .inr (10, [.ref tp, .int 0, .int 0, .int 0, .int 0])), (tp, .inr (9, [.ref by_, .int 0]))]) [0, 1, 2] rfl
  have hDc := hD.sub (ws' := [(h0, .inr (6, [.ref tk, .int 0, .int (-1)])), (tk, .inr (10, [.ref tp, .int 0, .int 0, .int 0, .int 0])), (tp, .inr (9, [.ref by_, .int 0]))]) [0, 1, 2] (by decide) rfl
  have hFc := va_free (wc := [(h0, .inr (6, [.ref tk, .int 0, .int (-1)])), (tk, .inr (10, [.ref tp, .int 0, .int 0, .int 0, .int 0])), (tp, .inr (9, [.ref by_, .int 0]))]) hD hS hA [0, 1, 2] rfl
  refine va_callv (va_runV (As := []) (rest := []) ⟨hx, hb, hml, hown, hts⟩ (c_X6_beginText l E h0 tk tp by_ H.size ) (cwV 0 hts gX6_readCover_X6_beginText rfl rfl rfl (by decide +kernel) ⟨Nat.le_of_ble_eq_true rfl, Nat.le_of_ble_eq_true rfl⟩) ⟨pcW_blind, va_recv hK hPc (ci := 6) (q0 := 0) rfl rfl, (pcW_pre hPc hkn hDc hst hS hFc)⟩ rfl rfl hl.1 rfl (lv_room (Nat.le_of_ble_eq_true rfl)) dX6_readCover_5 ⟨Nat.le_of_ble_eq_true rfl, Nat.le_of_ble_eq_true rfl⟩) hS (fun q _ h => hFc q h) hFc (fun u t H1 locs ht hvm hw4 hB hz1 hk1 hS => ?_)
  obtain ⟨hP1, hD1⟩ := hB
  rw [ht] at hP1
  try dsimp only at hw4
  obtain ⟨hP, hD⟩ := va_join (wr := [(into, .inr (1, [.ref bx2, .int 0, .int (-1), .int (-1), .int 0]))]) (w1 := [(h0, .inr (6, [.ref tk, .int 0, .int (-1)])), (tk, .inr (10, [.ref tp, .int 0, .int 0, .int 0, .int 0])), (tp, .inr (9, [.ref by_, .int 0]))]) hP hD [0, 1, 2] [3] rfl rfl (by decide) (by decide) hk1 hFc hP1 hD1
  generalize H1 = H at hP hS ⊢
  have hP : va_P E.1 vwCl [(into, .inr (1, [.ref bx2, .int 0, .int (-1), .int (-1), .int 0])), (h0, .inr (6, [.ref tk, .int 0, .int (-1)])), (tk, .inr (10, [.ref tp, .int 0, .int 0, .int 0, .int 0])), (tp, .inr (9, [.ref by_, .int 0]))] H := hP
  have hD : va_D A [(into, .inr (1, [.ref bx2, .int 0, .int (-1), .int (-1), .int 0])), (h0, .inr (6, [.ref tk, .int 0, .int (-1)])), (tk, .inr (10, [.ref tp, .int 0, .int 0, .int 0, .int 0])), (tp, .inr (9, [.ref by_, .int 0]))] := hD
  refine lv_iconst (v := 0) hx hb dX6_readCover_8 (by decide) ?_
  refine lv_istore_n (lv' := [(2, .int 0), (0, .ref h0), (1, .ref into)]) hx hb dX6_readCover_9 rfl hl (by decide) rfl (fun ls hl => ?_)
  refine lv_iload_n hx hb dX6_readCover_10 rfl (lv_at hl 0 rfl) ?_
  refine lv_sipush (v := 800) hx hb dX6_readCover_11 (by decide) ?_
  refine lv_icmp_gt (tgt := 60) hx hb dX6_readCover_14 (by decide) (fun c9 => absurd c9 (by decide)) (fun _ => ?_)
  refine lv_aload_n hx hb dX6_readCover_17 rfl (lv_at hl 1 rfl) ?_
  refine va_get (D := E.1) (ci := 6) (v := .ref tk) (C := RX6) (T := TX6) (N := 3) hx hb hts inX6 hown hK hP 1 rfl rfl 0 (by decide) fl23 (fun _ h9 => h9) rfl dX6_readCover_18 ?_
  refine va_get (D := E.1) (ci := 10) (v := .int 0) (C := RX10) (T := TX10) (N := 5) hx hb hts inX10 hown hK hP 2 rfl rfl 1 (by decide) fl35 (fun _ h9 => h9) rfl dX6_readCover_21 ?_
  refine lv_if_eq (tgt := 60) hx hb dX6_readCover_24 (by decide) (fun _ => ?_) (fun c9 => absurd c9 (by decide))
  refine lv_aload_n hx hb dX6_readCover_60 rfl (lv_at hl 2 rfl) ?_
  have hPc := hP.sub (ws' := [(into, .inr (1, [.ref bx2, .int 0, .int (-1), .int (-1), .int 0]))]) [0] rfl
  have hDc := hD.sub (ws' := [(into, .inr (1, [.ref bx2, .int 0, .int (-1), .int (-1), .int 0]))]) [0] (by decide) rfl
  have hFc := va_free (wc := [(into, .inr (1, [.ref bx2, .int 0, .int (-1), .int (-1), .int 0]))]) hD hS hA [0] rfl
  refine va_callv (va_runV (As := []) (rest := []) ⟨hx, hb, hml, hown, hts⟩ (c_X1_fillUntold l E into bx2 H.size ) (cwV 0 hts gX6_readCover_X1_fillUntold rfl rfl rfl (by decide +kernel) ⟨Nat.le_of_ble_eq_true rfl, Nat.le_of_ble_eq_true rfl⟩) ⟨pcW_blind, va_recv hK hPc (ci := 1) (q0 := 0) rfl rfl, (pcW_pre hPc hkn hDc hst hS hFc)⟩ rfl rfl hl.1 rfl (lv_room (Nat.le_of_ble_eq_true rfl)) dX6_readCover_61 ⟨Nat.le_of_ble_eq_true rfl, Nat.le_of_ble_eq_true rfl⟩) hS (fun q _ h => hFc q h) hFc (fun u t H1 locs ht hvm hw6 hB hz1 hk1 hS => ?_)
  obtain ⟨hP1, hD1⟩ := hB
  rw [ht] at hP1
  try dsimp only at hw6
  obtain ⟨hP, hD⟩ := va_join (wr := [(h0, .inr (6, [.ref tk, .int 0, .int (-1)])), (tk, .inr (10, [.ref tp, .int 0, .int 0, .int 0, .int 0])), (tp, .inr (9, [.ref by_, .int 0]))]) (w1 := [(into, .inr (1, [.ref bx2, .int 0, .int 0, .int 9, .int 0]))]) hP hD [0] [1, 2, 3] rfl rfl (by decide) (by decide) hk1 hFc hP1 hD1
  generalize H1 = H at hP hS ⊢
  have hP : va_P E.1 vwCl [(h0, .inr (6, [.ref tk, .int 0, .int (-1)])), (tk, .inr (10, [.ref tp, .int 0, .int 0, .int 0, .int 0])), (tp, .inr (9, [.ref by_, .int 0])), (into, .inr (1, [.ref bx2, .int 0, .int 0, .int 9, .int 0]))] H := hP
  have hD : va_D A [(h0, .inr (6, [.ref tk, .int 0, .int (-1)])), (tk, .inr (10, [.ref tp, .int 0, .int 0, .int 0, .int 0])), (tp, .inr (9, [.ref by_, .int 0])), (into, .inr (1, [.ref bx2, .int 0, .int 0, .int 9, .int 0]))] := hD
  refine lv_iconst (v := 1) hx hb dX6_readCover_64 (by decide) ?_
  have hP9 := hP.sub (ws' := [(h0, .inr (6, [.ref tk, .int 0, .int (-1)])), (tk, .inr (10, [.ref tp, .int 0, .int 0, .int 0, .int 0])), (tp, .inr (9, [.ref by_, .int 0])), (into, .inr (1, [.ref bx2, .int 0, .int 0, .int 9, .int 0]))]) [0, 1, 2, 3] rfl
  have hD9 := hD.sub (ws' := [(h0, .inr (6, [.ref tk, .int 0, .int (-1)])), (tk, .inr (10, [.ref tp, .int 0, .int 0, .int 0, .int 0])), (tp, .inr (9, [.ref by_, .int 0])), (into, .inr (1, [.ref bx2, .int 0, .int 0, .int 9, .int 0]))]) [0, 1, 2, 3] (by decide) rfl
  exact W.zret (v := 1) hx hb hr (by decide) (fun t ht hW => ⟨⟨1, (), rfl, rfl, by rw [ht]; exact hP9, hD9⟩, hS.F ht⟩) hS.2.2 dX6_readCover_65
set_option maxHeartbeats 4000000 in
set_option maxRecDepth 100000 in
theorem c_X11_skipper (l : Launch) (E : vE) (h0 : Nat) (tp : Nat) (rd : Nat) (se : Nat) (ba : Nat) (of : Nat) (pl : Nat) (sr : Nat) (sc : Nat) (bo : Nat) (sp : Nat) (pa : Nat) (ru : Nat) (co : Nat) (tr : Nat) (fb : Nat → Option Nat) (u1 : Nat) (u2 : Nat) (u3 : Nat) (u4 : Nat) (tk : Nat) (by_ : Nat) (s1 : Nat) (s2 : Nat) (s3 : Nat) (s4 : Nat) (b : Int32) (sz : Nat) (hfb : inR b 0 5 = true → fb b.toNatClampNeg = some bo) : Met l yX11_skipper wsX11_skipper ({ frames := 5, cells := 0, slots := 0, locals := 104 }) (pcW E [.ref h0, .int b] sz [(h0, .inr (11, [.ref tp, .ref rd, .ref se, .ref ba, .ref of, .ref pl, .ref sr, .ref sc, .int 0])), (ba, .inl (E.2 4, 6, .inr (.inr (.inr (.inr fb))))), (bo, .inr (0, [.ref sp, .ref pa, .int 0, .ref ru, .ref co, .ref tr])), (ru, .inr (7, [.ref u1, .ref u2, .ref u3, .ref u4, .int 0])), (rd, .inr (6, [.ref tk, .int 0, .int (-1)])), (tk, .inr (10, [.ref tp, .int 0, .int 0, .int 0, .int 0])), (tp, .inr (9, [.ref by_, .int 0])), (sr, .inr (7, [.ref s1, .ref s2, .ref s3, .ref s4, .int 0]))]) (va_Qi (fun (r : Int32) (_ : Unit) => r = cond (inR b 0 5) 0 (-2)) (fun (_ : Unit) (t : State) => wB E (va_A [(h0, .inr (11, [.ref tp, .ref rd, .ref se, .ref ba, .ref of, .ref pl, .ref sr, .ref sc, .int 0])), (ba, .inl (E.2 4, 6, .inr (.inr (.inr (.inr fb))))), (bo, .inr (0, [.ref sp, .ref pa, .int 0, .ref ru, .ref co, .ref tr])), (ru, .inr (7, [.ref u1, .ref u2, .ref u3, .ref u4, .int 0])), (rd, .inr (6, [.ref tk, .int 0, .int (-1)])), (tk, .inr (10, [.ref tp, .int 0, .int 0, .int 0, .int 0])), (tp, .inr (9, [.ref by_, .int 0])), (sr, .inr (7, [.ref s1, .ref s2, .ref s3, .ref s4, .int 0]))] sz) [] t) (va_A [(h0, .inr (11, [.ref tp, .ref rd, .ref se, .ref ba, .ref of, .ref pl, .ref sr, .ref sc, .int 0])), (ba, .inl (E.2 4, 6, .inr (.inr (.inr (.inr fb))))), (bo, .inr (0, [.ref sp, .ref pa, .int 0, .ref ru, .ref co, .ref tr])), (ru, .inr (7, [.ref u1, .ref u2, .ref u3, .ref u4, .int 0])), (rd, .inr (6, [.ref tk, .int 0, .int (-1)])), (tk, .inr (10, [.ref tp, .int 0, .int 0, .int 0, .int 0])), (tp, .inr (9, [.ref by_, .int 0])), (sr, .inr (7, [.ref s1, .ref s2, .ref s3, .ref s4, .int 0]))] sz)) 0 0 (va_A [(h0, .inr (11, [.ref tp, .ref rd, .ref se, .ref ba, .ref of, .ref pl, .ref sr, .ref sc, .int 0])), (ba, .inl (E.2 4, 6, .inr (.inr (.inr (.inr fb))))), (bo, .inr (0, [.ref sp, .ref pa, .int 0, .ref ru, .ref co, .ref tr])), (ru, .inr (7, [.ref u1, .ref u2, .ref u3, .ref u4, .int 0])), (rd, .inr (6, [.ref tk, .int 0, .int (-1)])), (tk, .inr (10, [.ref tp, .int 0, .int 0, .int 0, .int 0])), (tp, .inr (9, [.ref by_, .int 0])), (sr, .inr (7, [.ref s1, .ref s2, .ref s3, .ref s4, .int 0]))] sz) := by
  refine Met.ofW (cc := cX11_skipper) (maxL := 4) (ret := (some .int)) (by decide) rfl ?_
  intro p e s m args below meth c s₁ B hml hv
  obtain ⟨rfl, hsz, hP, hkn, hD0, hst⟩ := hv
  have hx := B.exec
  have hb := B.bytes
  have hr := B.returns
  have hts := atoms_spec (ws := wsX11_skipper) B.pre
  have hown : s.vm.findClass RX11 = some m.cls := findClass_of_methodNamed B.named
  have hlocks := B.notSynchronized
  subst hsz
  have hD := hD0.self (sz := s.heap.size)
  have hK := hkn.1
  have hAO := hkn.2.2
  generalize hAe : va_A [(h0, .inr (11, [.ref tp, .ref rd, .ref se, .ref ba, .ref of, .ref pl, .ref sr, .ref sc, .int 0])), (ba, .inl (E.2 4, 6, .inr (.inr (.inr (.inr fb))))), (bo, .inr (0, [.ref sp, .ref pa, .int 0, .ref ru, .ref co, .ref tr])), (ru, .inr (7, [.ref u1, .ref u2, .ref u3, .ref u4, .int 0])), (rd, .inr (6, [.ref tk, .int 0, .int (-1)])), (tk, .inr (10, [.ref tp, .int 0, .int 0, .int 0, .int 0])), (tp, .inr (9, [.ref by_, .int 0])), (sr, .inr (7, [.ref s1, .ref s2, .ref s3, .ref s4, .int 0]))] s.heap.size = A at hD hst ⊢
  have hA : ∀ q : Nat, s.heap.size ≤ q → A q := fun q h => by rw [← hAe]; exact Or.inr h
  have hS : va_S A s.heap s.heap [] := va_S.rf
  have hP : va_P E.1 vwCl [(h0, .inr (11, [.ref tp, .ref rd, .ref se, .ref ba, .ref of, .ref pl, .ref sr, .ref sc, .int 0])), (ba, .inl (E.2 4, 6, .inr (.inr (.inr (.inr fb))))), (bo, .inr (0, [.ref sp, .ref pa, .int 0, .ref ru, .ref co, .ref tr])), (ru, .inr (7, [.ref u1, .ref u2, .ref u3, .ref u4, .int 0])), (rd, .inr (6, [.ref tk, .int 0, .int (-1)])), (tk, .inr (10, [.ref tp, .int 0, .int 0, .int 0, .int 0])), (tp, .inr (9, [.ref by_, .int 0])), (sr, .inr (7, [.ref s1, .ref s2, .ref s3, .ref s4, .int 0]))] s.heap := hP
  have hl := lv_entry ([.ref h0, .int b]) (n := 4) (Nat.le_of_ble_eq_true rfl)
  rw [lg_entry_eq]
  generalize (lg_sl ([.ref h0, .int b]) ++ List.replicate (4 - (lg_sl ([.ref h0, .int b])).length) Slot.unset).toArray = ls at hl ⊢
  have hl : lv_has ls 4 [(0, .ref h0), (1, .int b)] := hl
  have fl10 := hts (.fieldLink RX11 10 "BoatsHome" "tape" "LBoatsHome$Tape;") (by decide +kernel)
  have fl21 := hts (.fieldLink RX11 21 "BoatsHome" "reader" "LBoatsHome$Reader;") (by decide +kernel)
  have fl34 := hts (.fieldLink RX11 34 "BoatsHome" "boats" "[LBoatsHome$Boat;") (by decide +kernel)
  have fl58 := hts (.fieldLink RX11 58 "BoatsHome" "spareRules" "LBoatsHome$Rules;") (by decide +kernel)
  have fl73 := hts (.fieldLink RX11 73 "BoatsHome$Tape" "length" "I") (by decide +kernel)
  have fl118 := hts (.fieldLink RX11 118 "BoatsHome$Boat" "rules" "LBoatsHome$Rules;") (by decide +kernel)
  have fl121 := hts (.fieldLink RX11 121 "BoatsHome$Rules" "size" "I") (by decide +kernel)
  have inX0 : ∀ w ∈ u_ws RX0 TX0 6, w ∈ wsX11_skipper := by decide +kernel
  have inX11 : ∀ w ∈ u_ws RX11 TX11 9, w ∈ wsX11_skipper := by decide +kernel
  have inX7 : ∀ w ∈ u_ws RX7 TX7 5, w ∈ wsX11_skipper := by decide +kernel
  have inX9 : ∀ w ∈ u_ws RX9 TX9 2, w ∈ wsX11_skipper := by decide +kernel
  refine lv_iload_n hx hb dX11_skipper_0 rfl (lv_at hl 1 rfl) ?_
  refine lv_bipush (v := 6) hx hb dX11_skipper_1 (by decide) ?_
  have hPc := hP.sub (ws' := []) [] rfl
  have hDc := hD.sub (ws' := []) [] (by decide) rfl
  have hFc := va_free (wc := []) hD hS hA [] rfl
  refine va_calli (va_runS (As := [.int b, .int 6]) (rest := []) ⟨hx, hb, hml, hown, hts⟩ (c_X11_below l E b 6 5 s.heap.size (lt_le (by decide))) (va_cwS 2 hts gX11_skipper_X11_below rfl rfl rfl (by decide +kernel) ⟨Nat.le_of_ble_eq_true rfl, Nat.le_of_ble_eq_true rfl⟩) ⟨pcW_blind, (pcW_pre hPc hkn hDc hst hS hFc)⟩ rfl rfl hl.1 rfl (lv_room (Nat.le_of_ble_eq_true rfl)) dX11_skipper_3 ⟨Nat.le_of_ble_eq_true rfl, Nat.le_of_ble_eq_true rfl⟩) hS (fun q _ h => hFc q h) hFc (fun r1 u t H1 locs ht hvm hw2 hB hz1 hk1 hS => ?_)
  obtain ⟨hP1, hD1⟩ := hB
  rw [ht] at hP1
  try dsimp only at hw2
  obtain ⟨hP, hD⟩ := va_join (wr := [(h0, .inr (11, [.ref tp, .ref rd, .ref se, .ref ba, .ref of, .ref pl, .ref sr, .ref sc, .int 0])), (ba, .inl (E.2 4, 6, .inr (.inr (.inr (.inr fb))))), (bo, .inr (0, [.ref sp, .ref pa, .int 0, .ref ru, .ref co, .ref tr])), (ru, .inr (7, [.ref u1, .ref u2, .ref u3, .ref u4, .int 0])), (rd, .inr (6, [.ref tk, .int 0, .int (-1)])), (tk, .inr (10, [.ref tp, .int 0, .int 0, .int 0, .int 0])), (tp, .inr (9, [.ref by_, .int 0])), (sr, .inr (7, [.ref s1, .ref s2, .ref s3, .ref s4, .int 0]))]) (w1 := []) hP hD [] [0, 1, 2, 3, 4, 5, 6, 7] rfl rfl (by decide) (by decide) hk1 hFc hP1 hD1
  generalize H1 = H at hP hS ⊢
  have hP : va_P E.1 vwCl [(h0, .inr (11, [.ref tp, .ref rd, .ref se, .ref ba, .ref of, .ref pl, .ref sr, .ref sc, .int 0])), (ba, .inl (E.2 4, 6, .inr (.inr (.inr (.inr fb))))), (bo, .inr (0, [.ref sp, .ref pa, .int 0, .ref ru, .ref co, .ref tr])), (ru, .inr (7, [.ref u1, .ref u2, .ref u3, .ref u4, .int 0])), (rd, .inr (6, [.ref tk, .int 0, .int (-1)])), (tk, .inr (10, [.ref tp, .int 0, .int 0, .int 0, .int 0])), (tp, .inr (9, [.ref by_, .int 0])), (sr, .inr (7, [.ref s1, .ref s2, .ref s3, .ref s4, .int 0]))] H := hP
  have hD : va_D A [(h0, .inr (11, [.ref tp, .ref rd, .ref se, .ref ba, .ref of, .ref pl, .ref sr, .ref sc, .int 0])), (ba, .inl (E.2 4, 6, .inr (.inr (.inr (.inr fb))))), (bo, .inr (0, [.ref sp, .ref pa, .int 0, .ref ru, .ref co, .ref tr])), (ru, .inr (7, [.ref u1, .ref u2, .ref u3, .ref u4, .int 0])), (rd, .inr (6, [.ref tk, .int 0, .int (-1)])), (tk, .inr (10, [.ref tp, .int 0, .int 0, .int 0, .int 0])), (tp, .inr (9, [.ref by_, .int 0])), (sr, .inr (7, [.ref s1, .ref s2, .ref s3, .ref s4, .int 0]))] := hD
  refine lv_if_ne (tgt := 12) hx hb dX11_skipper_6 (by decide) (fun c3 => ?_) (fun c3 => ?_)
  · have b4 : inR b 0 5 = true := bn hw2 c3
    refine lv_aload_n hx hb dX11_skipper_12 rfl (lv_at hl 0 rfl) ?_
    refine va_get (D := E.1) (ci := 11) (v := .ref rd) (C := RX11) (T := TX11) (N := 9) hx hb hts inX11 hown hK hP 0 rfl rfl 1 (by decide) fl21 (fun _ h9 => h9) rfl dX11_skipper_13 ?_
    refine lv_aload_n hx hb dX11_skipper_16 rfl (lv_at hl 0 rfl) ?_
    refine va_get (D := E.1) (ci := 11) (v := .ref sr) (C := RX11) (T := TX11) (N := 9) hx hb hts inX11 hown hK hP 0 rfl rfl 6 (by decide) fl58 (fun _ h9 => h9) rfl dX11_skipper_17 ?_
    have hPc := hP.sub (ws' := [(rd, .inr (6, [.ref tk, .int 0, .int (-1)])), (tk, .inr (10, [.ref tp, .int 0, .int 0, .int 0, .int 0])), (tp, .inr (9, [.ref by_, .int 0])), (sr, .inr (7, [.ref s1, .ref s2, .ref s3, .ref s4, .int 0]))]) [4, 5, 6, 7] rfl
    have hDc := hD.sub (ws' := [(rd, .inr (6, [.ref tk, .int 0, .int (-1)])), (tk, .inr (10, [.ref tp, .int 0, .int 0, .int 0, .int 0])), (tp, .inr (9, [.ref by_, .int 0])), (sr, .inr (7, [.ref s1, .ref s2, .ref s3, .ref s4, .int 0]))]) [4, 5, 6, 7] (by decide) rfl
    have hFc := va_free (wc := [(rd, .inr (6, [.ref tk, .int 0, .int (-1)])), (tk, .inr (10, [.ref tp, .int 0, .int 0, .int 0, .int 0])), (tp, .inr (9, [.ref by_, .int 0])), (sr, .inr (7, [.ref s1, .ref s2, .ref s3, .ref s4, .int 0]))]) hD hS hA [4, 5, 6, 7] rfl
    refine va_calli (va_runV (As := [.ref sr]) (rest := []) ⟨hx, hb, hml, hown, hts⟩ (c_X6_readRules l E rd sr tk tp by_ s1 s2 s3 s4 H.size ) (cwV 1 hts gX11_skipper_X6_readRules rfl rfl rfl (by decide +kernel) ⟨Nat.le_of_ble_eq_true rfl, Nat.le_of_ble_eq_true rfl⟩) ⟨pcW_blind, va_recv hK hPc (ci := 6) (q0 := 0) rfl rfl, (pcW_pre hPc hkn hDc hst hS hFc)⟩ rfl rfl hl.1 rfl (lv_room (Nat.le_of_ble_eq_true rfl)) dX11_skipper_20 ⟨Nat.le_of_ble_eq_true rfl, Nat.le_of_ble_eq_true rfl⟩) hS (fun q _ h => hFc q h) hFc (fun r5 u t H1 locs ht hvm hw6 hB hz1 hk1 hS => ?_)
    obtain ⟨hP1, hD1⟩ := hB
    rw [ht] at hP1
    try dsimp only at hw6
    obtain ⟨hP, hD⟩ := va_join (wr := [(h0, .inr (11, [.ref tp, .ref rd, .ref se, .ref ba, .ref of, .ref pl, .ref sr, .ref sc, .int 0])), (ba, .inl (E.2 4, 6, .inr (.inr (.inr (.inr fb))))), (bo, .inr (0, [.ref sp, .ref pa, .int 0, .ref ru, .ref co, .ref tr])), (ru, .inr (7, [.ref u1, .ref u2, .ref u3, .ref u4, .int 0]))]) (w1 := [(rd, .inr (6, [.ref tk, .int 0, .int (-1)])), (tk, .inr (10, [.ref tp, .int 0, .int 0, .int 0, .int 0])), (tp, .inr (9, [.ref by_, .int 0])), (sr, .inr (7, [.ref s1, .ref s2, .ref s3, .ref s4, .int 0]))]) hP hD [4, 5, 6, 7] [0, 1, 2, 3] rfl rfl (by decide) (by decide) hk1 hFc hP1 hD1
    generalize H1 = H at hP hS ⊢
    have hP : va_P E.1 vwCl [(h0, .inr (11, [.ref tp, .ref rd, .ref se, .ref ba, .ref of, .ref pl, .ref sr, .ref sc, .int 0])), (ba, .inl (E.2 4, 6, .inr (.inr (.inr (.inr fb))))), (bo, .inr (0, [.ref sp, .ref pa, .int 0, .ref ru, .ref co, .ref tr])), (ru, .inr (7, [.ref u1, .ref u2, .ref u3, .ref u4, .int 0])), (rd, .inr (6, [.ref tk, .int 0, .int (-1)])), (tk, .inr (10, [.ref tp, .int 0, .int 0, .int 0, .int 0])), (tp, .inr (9, [.ref by_, .int 0])), (sr, .inr (7, [.ref s1, .ref s2, .ref s3, .ref s4, .int 0]))] H := hP
    have hD : va_D A [(h0, .inr (11, [.ref tp, .ref rd, .ref se, .ref ba, .ref of, .ref pl, .ref sr, .ref sc, .int 0])), (ba, .inl (E.2 4, 6, .inr (.inr (.inr (.inr fb))))), (bo, .inr (0, [.ref sp, .ref pa, .int 0, .ref ru, .ref co, .ref tr])), (ru, .inr (7, [.ref u1, .ref u2, .ref u3, .ref u4, .int 0])), (rd, .inr (6, [.ref tk, .int 0, .int (-1)])), (tk, .inr (10, [.ref tp, .int 0, .int 0, .int 0, .int 0])), (tp, .inr (9, [.ref by_, .int 0])), (sr, .inr (7, [.ref s1, .ref s2, .ref s3, .ref s4, .int 0]))] := hD
    obtain rfl : r5 = 1 := hw6
    refine lv_istore_n (lv' := [(2, .int 1), (0, .ref h0), (1, .int b)]) hx hb dX11_skipper_23 rfl hl (by decide) rfl (fun ls hl => ?_)
    refine lv_aload_n hx hb dX11_skipper_24 rfl (lv_at hl 1 rfl) ?_
    refine va_get (D := E.1) (ci := 11) (v := .ref tp) (C := RX11) (T := TX11) (N := 9) hx hb hts inX11 hown hK hP 0 rfl rfl 0 (by decide) fl10 (fun _ h9 => h9) rfl dX11_skipper_25 ?_
    refine lv_iconst (v := 0) hx hb dX11_skipper_28 (by decide) ?_
    refine va_put (D := E.1) (ci := 9) (v := .int 0) (ty := .int) (C := RX9) (T := TX9) (N := 2) hx hb hts inX9 tyX9 tyX9_ok nmX9 hown hK hP hD hS 6 rfl rfl 1 (by decide) fl73 (fun _ h9 => h9) rfl (by decide +kernel) rfl rfl (Nat.le_of_ble_eq_true rfl) dX11_skipper_29 (fun H locs hP hD hS => ?_)
    have hP : va_P E.1 vwCl [(h0, .inr (11, [.ref tp, .ref rd, .ref se, .ref ba, .ref of, .ref pl, .ref sr, .ref sc, .int 0])), (ba, .inl (E.2 4, 6, .inr (.inr (.inr (.inr fb))))), (bo, .inr (0, [.ref sp, .ref pa, .int 0, .ref ru, .ref co, .ref tr])), (ru, .inr (7, [.ref u1, .ref u2, .ref u3, .ref u4, .int 0])), (rd, .inr (6, [.ref tk, .int 0, .int (-1)])), (tk, .inr (10, [.ref tp, .int 0, .int 0, .int 0, .int 0])), (tp, .inr (9, [.ref by_, .int 0])), (sr, .inr (7, [.ref s1, .ref s2, .ref s3, .ref s4, .int 0]))] H := hP
    have hD : va_D A [(h0, .inr (11, [.ref tp, .ref rd, .ref se, .ref ba, .ref of, .ref pl, .ref sr, .ref sc, .int 0])), (ba, .inl (E.2 4, 6, .inr (.inr (.inr (.inr fb))))), (bo, .inr (0, [.ref sp, .ref pa, .int 0, .ref ru, .ref co, .ref tr])), (ru, .inr (7, [.ref u1, .ref u2, .ref u3, .ref u4, .int 0])), (rd, .inr (6, [.ref tk, .int 0, .int (-1)])), (tk, .inr (10, [.ref tp, .int 0, .int 0, .int 0, .int 0])), (tp, .inr (9, [.ref by_, .int 0])), (sr, .inr (7, [.ref s1, .ref s2, .ref s3, .ref s4, .int 0]))] := hD
    refine lv_iload_n hx hb dX11_skipper_32 rfl (lv_at hl 0 rfl) ?_
    refine lv_if_ne (tgt := 38) hx hb dX11_skipper_33 (by decide) (fun _ => ?_) (fun c9 => absurd c9 (by decide))
    refine lv_aload_n hx hb dX11_skipper_38 rfl (lv_at hl 1 rfl) ?_
    refine va_get (D := E.1) (ci := 11) (v := .ref ba) (C := RX11) (T := TX11) (N := 9) hx hb hts inX11 hown hK hP 0 rfl rfl 3 (by decide) fl34 (fun _ h9 => h9) rfl dX11_skipper_39 ?_
    refine lv_iload_n hx hb dX11_skipper_42 rfl (lv_at hl 2 rfl) ?_
    have hi7 : vp_in b 6 := inR_in (by decide) b4
    refine va_aldq hx hb hK hP 1 4 rfl rfl hi7 dX11_skipper_43 ?_
    rw [show va_rf (fb b.toNatClampNeg) = .ref bo from by rw [hfb b4]; rfl]
    refine va_get (D := E.1) (ci := 0) (v := .ref ru) (C := RX0) (T := TX0) (N := 6) hx hb hts inX0 hown hK hP 2 rfl rfl 3 (by decide) fl118 (fun _ h9 => h9) rfl dX11_skipper_44 ?_
    refine lv_astore_n (lv' := [(3, .ref ru), (2, .int 1), (0, .ref h0), (1, .int b)]) hx hb dX11_skipper_47 rfl hl (by decide) rfl (fun ls hl => ?_)
    refine lv_aload_n hx hb dX11_skipper_48 rfl (lv_at hl 2 rfl) ?_
    refine va_get (D := E.1) (ci := 11) (v := .ref ba) (C := RX11) (T := TX11) (N := 9) hx hb hts inX11 hown hK hP 0 rfl rfl 3 (by decide) fl34 (fun _ h9 => h9) rfl dX11_skipper_49 ?_
    refine lv_iload_n hx hb dX11_skipper_52 rfl (lv_at hl 3 rfl) ?_
    refine va_aldq hx hb hK hP 1 4 rfl rfl hi7 dX11_skipper_53 ?_
    rw [show va_rf (fb b.toNatClampNeg) = .ref bo from by rw [hfb b4]; rfl]
    refine lv_aload_n hx hb dX11_skipper_54 rfl (lv_at hl 2 rfl) ?_
    refine va_get (D := E.1) (ci := 11) (v := .ref sr) (C := RX11) (T := TX11) (N := 9) hx hb hts inX11 hown hK hP 0 rfl rfl 6 (by decide) fl58 (fun _ h9 => h9) rfl dX11_skipper_55 ?_
    refine va_put (D := E.1) (ci := 0) (v := .ref sr) (ty := .object "BoatsHome$Rules") (C := RX0) (T := TX0) (N := 6) hx hb hts inX0 tyX0 tyX0_ok nmX0 hown hK hP hD hS 2 rfl rfl 3 (by decide) fl118 (fun _ h9 => h9) rfl (by decide +kernel) rfl rfl (Nat.le_of_ble_eq_true rfl) dX11_skipper_58 (fun H locs hP hD hS => ?_)
    have hP : va_P E.1 vwCl [(h0, .inr (11, [.ref tp, .ref rd, .ref se, .ref ba, .ref of, .ref pl, .ref sr, .ref sc, .int 0])), (ba, .inl (E.2 4, 6, .inr (.inr (.inr (.inr fb))))), (bo, .inr (0, [.ref sp, .ref pa, .int 0, .ref sr, .ref co, .ref tr])), (ru, .inr (7, [.ref u1, .ref u2, .ref u3, .ref u4, .int 0])), (rd, .inr (6, [.ref tk, .int 0, .int (-1)])), (tk, .inr (10, [.ref tp, .int 0, .int 0, .int 0, .int 0])), (tp, .inr (9, [.ref by_, .int 0])), (sr, .inr (7, [.ref s1, .ref s2, .ref s3, .ref s4, .int 0]))] H := hP
    have hD : va_D A [(h0, .inr (11, [.ref tp, .ref rd, .ref se, .ref ba, .ref of, .ref pl, .ref sr, .ref sc, .int 0])), (ba, .inl (E.2 4, 6, .inr (.inr (.inr (.inr fb))))), (bo, .inr (0, [.ref sp, .ref pa, .int 0, .ref sr, .ref co, .ref tr])), (ru, .inr (7, [.ref u1, .ref u2, .ref u3, .ref u4, .int 0])), (rd, .inr (6, [.ref tk, .int 0, .int (-1)])), (tk, .inr (10, [.ref tp, .int 0, .int 0, .int 0, .int 0])), (tp, .inr (9, [.ref by_, .int 0])), (sr, .inr (7, [.ref s1, .ref s2, .ref s3, .ref s4, .int 0]))] := hD
    refine lv_aload_n hx hb dX11_skipper_61 rfl (lv_at hl 2 rfl) ?_
    refine lv_aload_n hx hb dX11_skipper_62 rfl (lv_at hl 0 rfl) ?_
    refine va_put (D := E.1) (ci := 11) (v := .ref ru) (ty := .object "BoatsHome$Rules") (C := RX11) (T := TX11) (N := 9) hx hb hts inX11 tyX11 tyX11_ok nmX11 hown hK hP hD hS 0 rfl rfl 6 (by decide) fl58 (fun _ h9 => h9) rfl (by decide +kernel) rfl rfl (Nat.le_of_ble_eq_true rfl) dX11_skipper_63 (fun H locs hP hD hS => ?_)
    have hP : va_P E.1 vwCl [(h0, .inr (11, [.ref tp, .ref rd, .ref se, .ref ba, .ref of, .ref pl, .ref ru, .ref sc, .int 0])), (ba, .inl (E.2 4, 6, .inr (.inr (.inr (.inr fb))))), (bo, .inr (0, [.ref sp, .ref pa, .int 0, .ref sr, .ref co, .ref tr])), (ru, .inr (7, [.ref u1, .ref u2, .ref u3, .ref u4, .int 0])), (rd, .inr (6, [.ref tk, .int 0, .int (-1)])), (tk, .inr (10, [.ref tp, .int 0, .int 0, .int 0, .int 0])), (tp, .inr (9, [.ref by_, .int 0])), (sr, .inr (7, [.ref s1, .ref s2, .ref s3, .ref s4, .int 0]))] H := hP
    have hD : va_D A [(h0, .inr (11, [.ref tp, .ref rd, .ref se, .ref ba, .ref of, .ref pl, .ref ru, .ref sc, .int 0])), (ba, .inl (E.2 4, 6, .inr (.inr (.inr (.inr fb))))), (bo, .inr (0, [.ref sp, .ref pa, .int 0, .ref sr, .ref co, .ref tr])), (ru, .inr (7, [.ref u1, .ref u2, .ref u3, .ref u4, .int 0])), (rd, .inr (6, [.ref tk, .int 0, .int (-1)])), (tk, .inr (10, [.ref tp, .int 0, .int 0, .int 0, .int 0])), (tp, .inr (9, [.ref by_, .int 0])), (sr, .inr (7, [.ref s1, .ref s2, .ref s3, .ref s4, .int 0]))] := hD
    refine lv_aload_n hx hb dX11_skipper_66 rfl (lv_at hl 2 rfl) ?_
    refine va_get (D := E.1) (ci := 11) (v := .ref ba) (C := RX11) (T := TX11) (N := 9) hx hb hts inX11 hown hK hP 0 rfl rfl 3 (by decide) fl34 (fun _ h9 => h9) rfl dX11_skipper_67 ?_
    refine lv_iload_n hx hb dX11_skipper_70 rfl (lv_at hl 3 rfl) ?_
    refine va_aldq hx hb hK hP 1 4 rfl rfl hi7 dX11_skipper_71 ?_
    rw [show va_rf (fb b.toNatClampNeg) = .ref bo from by rw [hfb b4]; rfl]
    refine va_get (D := E.1) (ci := 0) (v := .ref sr) (C := RX0) (T := TX0) (N := 6) hx hb hts inX0 hown hK hP 2 rfl rfl 3 (by decide) fl118 (fun _ h9 => h9) rfl dX11_skipper_72 ?_
    refine va_get (D := E.1) (ci := 7) (v := .int 0) (C := RX7) (T := TX7) (N := 5) hx hb hts inX7 hown hK hP 7 rfl rfl 4 (by decide) fl121 (fun _ h9 => h9) rfl dX11_skipper_75 ?_
    have hP9 := hP.sub (ws' := []) [] rfl
    have hD9 := hD.sub (ws' := []) [] (by decide) rfl
    exact W.iret (v := 0) hx hb hr (fun t ht hW => ⟨⟨0, (), rfl, (by first | (rw [b4]; done) | (rw [b4]; rfl)), by rw [ht]; exact hP9, hD9⟩, hS.F ht⟩) hS.2.2 dX11_skipper_78
  · have b8 : inR b 0 5 = false := bz hw2 c3
    refine lv_bipush (v := (-2)) hx hb dX11_skipper_9 (by decide) ?_
    have hP9 := hP.sub (ws' := []) [] rfl
    have hD9 := hD.sub (ws' := []) [] (by decide) rfl
    exact W.iret (v := (-2)) hx hb hr (fun t ht hW => ⟨⟨(-2), (), rfl, (by first | (rw [b8]; done) | (rw [b8]; rfl)), by rw [ht]; exact hP9, hD9⟩, hS.F ht⟩) hS.2.2 dX11_skipper_11
set_option maxHeartbeats 4000000 in
set_option maxRecDepth 100000 in
theorem c_X11_insurer (l : Launch) (E : vE) (h0 : Nat) (tp : Nat) (rd : Nat) (se : Nat) (ba : Nat) (of : Nat) (pl : Nat) (sr : Nat) (sc : Nat) (bo : Nat) (sp : Nat) (pa : Nat) (ru : Nat) (co : Nat) (tr : Nat) (fb : Nat → Option Nat) (bx : Nat) (tk : Nat) (by_ : Nat) (bx2 : Nat) (b : Int32) (sz : Nat) (hfb : inR b 0 5 = true → fb b.toNatClampNeg = some bo) : Met l yX11_insurer wsX11_insurer ({ frames := 5, cells := 0, slots := 0, locals := 104 }) (pcW E [.ref h0, .int b] sz [(h0, .inr (11, [.ref tp, .ref rd, .ref se, .ref ba, .ref of, .ref pl, .ref sr, .ref sc, .int 0])), (ba, .inl (E.2 4, 6, .inr (.inr (.inr (.inr fb))))), (bo, .inr (0, [.ref sp, .ref pa, .int 0, .ref ru, .ref co, .ref tr])), (co, .inr (1, [.ref bx, .int 0, .int 0, .int 9, .int 0])), (rd, .inr (6, [.ref tk, .int 0, .int (-1)])), (tk, .inr (10, [.ref tp, .int 0, .int 0, .int 0, .int 0])), (tp, .inr (9, [.ref by_, .int 0])), (sc, .inr (1, [.ref bx2, .int 0, .int 0, .int 9, .int 0]))]) (va_Qi (fun (r : Int32) (_ : Unit) => r = cond (inR b 0 5) 0 (-2)) (fun (_ : Unit) (t : State) => wB E (va_A [(h0, .inr (11, [.ref tp, .ref rd, .ref se, .ref ba, .ref of, .ref pl, .ref sr, .ref sc, .int 0])), (ba, .inl (E.2 4, 6, .inr (.inr (.inr (.inr fb))))), (bo, .inr (0, [.ref sp, .ref pa, .int 0, .ref ru, .ref co, .ref tr])), (co, .inr (1, [.ref bx, .int 0, .int 0, .int 9, .int 0])), (rd, .inr (6, [.ref tk, .int 0, .int (-1)])), (tk, .inr (10, [.ref tp, .int 0, .int 0, .int 0, .int 0])), (tp, .inr (9, [.ref by_, .int 0])), (sc, .inr (1, [.ref bx2, .int 0, .int 0, .int 9, .int 0]))] sz) [] t) (va_A [(h0, .inr (11, [.ref tp, .ref rd, .ref se, .ref ba, .ref of, .ref pl, .ref sr, .ref sc, .int 0])), (ba, .inl (E.2 4, 6, .inr (.inr (.inr (.inr fb))))), (bo, .inr (0, [.ref sp, .ref pa, .int 0, .ref ru, .ref co, .ref tr])), (co, .inr (1, [.ref bx, .int 0, .int 0, .int 9, .int 0])), (rd, .inr (6, [.ref tk, .int 0, .int (-1)])), (tk, .inr (10, [.ref tp, .int 0, .int 0, .int 0, .int 0])), (tp, .inr (9, [.ref by_, .int 0])), (sc, .inr (1, [.ref bx2, .int 0, .int 0, .int 9, .int 0]))] sz)) 0 0 (va_A [(h0, .inr (11, [.ref tp, .ref rd, .ref se, .ref ba, .ref of, .ref pl, .ref sr, .ref sc, .int 0])), (ba, .inl (E.2 4, 6, .inr (.inr (.inr (.inr fb))))), (bo, .inr (0, [.ref sp, .ref pa, .int 0, .ref ru, .ref co, .ref tr])), (co, .inr (1, [.ref bx, .int 0, .int 0, .int 9, .int 0])), (rd, .inr (6, [.ref tk, .int 0, .int (-1)])), (tk, .inr (10, [.ref tp, .int 0, .int 0, .int 0, .int 0])), (tp, .inr (9, [.ref by_, .int 0])), (sc, .inr (1, [.ref bx2, .int 0, .int 0, .int 9, .int 0]))] sz) := by
  refine Met.ofW (cc := cX11_insurer) (maxL := 4) (ret := (some .int)) (by decide) rfl ?_
  intro p e s m args below meth c s₁ B hml hv
  obtain ⟨rfl, hsz, hP, hkn, hD0, hst⟩ := hv
  have hx := B.exec
  have hb := B.bytes
  have hr := B.returns
  have hts := atoms_spec (ws := wsX11_insurer) B.pre
  have hown : s.vm.findClass RX11 = some m.cls := findClass_of_methodNamed B.named
  have hlocks := B.notSynchronized
  subst hsz
  have hD := hD0.self (sz := s.heap.size)
  have hK := hkn.1
  have hAO := hkn.2.2
  generalize hAe : va_A [(h0, .inr (11, [.ref tp, .ref rd, .ref se, .ref ba, .ref of, .ref pl, .ref sr, .ref sc, .int 0])), (ba, .inl (E.2 4, 6, .inr (.inr (.inr (.inr fb))))), (bo, .inr (0, [.ref sp, .ref pa, .int 0, .ref ru, .ref co, .ref tr])), (co, .inr (1, [.ref bx, .int 0, .int 0, .int 9, .int 0])), (rd, .inr (6, [.ref tk, .int 0, .int (-1)])), (tk, .inr (10, [.ref tp, .int 0, .int 0, .int 0, .int 0])), (tp, .inr (9, [.ref by_, .int 0])), (sc, .inr (1, [.ref bx2, .int 0, .int 0, .int 9, .int 0]))] s.heap.size = A at hD hst ⊢
  have hA : ∀ q : Nat, s.heap.size ≤ q → A q := fun q h => by rw [← hAe]; exact Or.inr h
  have hS : va_S A s.heap s.heap [] := va_S.rf
  have hP : va_P E.1 vwCl [(h0, .inr (11, [.ref tp, .ref rd, .ref se, .ref ba, .ref of, .ref pl, .ref sr, .ref sc, .int 0])), (ba, .inl (E.2 4, 6, .inr (.inr (.inr (.inr fb))))), (bo, .inr (0, [.ref sp, .ref pa, .int 0, .ref ru, .ref co, .ref tr])), (co, .inr (1, [.ref bx, .int 0, .int 0, .int 9, .int 0])), (rd, .inr (6, [.ref tk, .int 0, .int (-1)])), (tk, .inr (10, [.ref tp, .int 0, .int 0, .int 0, .int 0])), (tp, .inr (9, [.ref by_, .int 0])), (sc, .inr (1, [.ref bx2, .int 0, .int 0, .int 9, .int 0]))] s.heap := hP
  have hl := lv_entry ([.ref h0, .int b]) (n := 4) (Nat.le_of_ble_eq_true rfl)
  rw [lg_entry_eq]
  generalize (lg_sl ([.ref h0, .int b]) ++ List.replicate (4 - (lg_sl ([.ref h0, .int b])).length) Slot.unset).toArray = ls at hl ⊢
  have hl : lv_has ls 4 [(0, .ref h0), (1, .int b)] := hl
  have fl10 := hts (.fieldLink RX11 10 "BoatsHome" "tape" "LBoatsHome$Tape;") (by decide +kernel)
  have fl21 := hts (.fieldLink RX11 21 "BoatsHome" "reader" "LBoatsHome$Reader;") (by decide +kernel)
  have fl34 := hts (.fieldLink RX11 34 "BoatsHome" "boats" "[LBoatsHome$Boat;") (by decide +kernel)
  have fl65 := hts (.fieldLink RX11 65 "BoatsHome" "spareCover" "LBoatsHome$Cover;") (by decide +kernel)
  have fl73 := hts (.fieldLink RX11 73 "BoatsHome$Tape" "length" "I") (by decide +kernel)
  have fl128 := hts (.fieldLink RX11 128 "BoatsHome$Boat" "cover" "LBoatsHome$Cover;") (by decide +kernel)
  have fl131 := hts (.fieldLink RX11 131 "BoatsHome$Cover" "lines" "I") (by decide +kernel)
  have inX0 : ∀ w ∈ u_ws RX0 TX0 6, w ∈ wsX11_insurer := by decide +kernel
  have inX1 : ∀ w ∈ u_ws RX1 TX1 5, w ∈ wsX11_insurer := by decide +kernel
  have inX11 : ∀ w ∈ u_ws RX11 TX11 9, w ∈ wsX11_insurer := by decide +kernel
  have inX9 : ∀ w ∈ u_ws RX9 TX9 2, w ∈ wsX11_insurer := by decide +kernel
  refine lv_iload_n hx hb dX11_insurer_0 rfl (lv_at hl 1 rfl) ?_
  refine lv_bipush (v := 6) hx hb dX11_insurer_1 (by decide) ?_
  have hPc := hP.sub (ws' := []) [] rfl
  have hDc := hD.sub (ws' := []) [] (by decide) rfl
  have hFc := va_free (wc := []) hD hS hA [] rfl
  refine va_calli (va_runS (As := [.int b, .int 6]) (rest := []) ⟨hx, hb, hml, hown, hts⟩ (c_X11_below l E b 6 5 s.heap.size (lt_le (by decide))) (va_cwS 2 hts gX11_insurer_X11_below rfl rfl rfl (by decide +kernel) ⟨Nat.le_of_ble_eq_true rfl, Nat.le_of_ble_eq_true rfl⟩) ⟨pcW_blind, (pcW_pre hPc hkn hDc hst hS hFc)⟩ rfl rfl hl.1 rfl (lv_room (Nat.le_of_ble_eq_true rfl)) dX11_insurer_3 ⟨Nat.le_of_ble_eq_true rfl, Nat.le_of_ble_eq_true rfl⟩) hS (fun q _ h => hFc q h) hFc (fun r1 u t H1 locs ht hvm hw2 hB hz1 hk1 hS => ?_)
  obtain ⟨hP1, hD1⟩ := hB
  rw [ht] at hP1
  try dsimp only at hw2
  obtain ⟨hP, hD⟩ := va_join (wr := [(h0, .inr (11, [.ref tp, .ref rd, .ref se, .ref ba, .ref of, .ref pl, .ref sr, .ref sc, .int 0])), (ba, .inl (E.2 4, 6, .inr (.inr (.inr (.inr fb))))), (bo, .inr (0, [.ref sp, .ref pa, .int 0, .ref ru, .ref co, .ref tr])), (co, .inr (1, [.ref bx, .int 0, .int 0, .int 9, .int 0])), (rd, .inr (6, [.ref tk, .int 0, .int (-1)])), (tk, .inr (10, [.ref tp, .int 0, .int 0, .int 0, .int 0])), (tp, .inr (9, [.ref by_, .int 0])), (sc, .inr (1, [.ref bx2, .int 0, .int 0, .int 9, .int 0]))]) (w1 := []) hP hD [] [0, 1, 2, 3, 4, 5, 6, 7] rfl rfl (by decide) (by decide) hk1 hFc hP1 hD1
  generalize H1 = H at hP hS ⊢
  have hP : va_P E.1 vwCl [(h0, .inr (11, [.ref tp, .ref rd, .ref se, .ref ba, .ref of, .ref pl, .ref sr, .ref sc, .int 0])), (ba, .inl (E.2 4, 6, .inr (.inr (.inr (.inr fb))))), (bo, .inr (0, [.ref sp, .ref pa, .int 0, .ref ru, .ref co, .ref tr])), (co, .inr (1, [.ref bx, .int 0, .int 0, .int 9, .int 0])), (rd, .inr (6, [.ref tk, .int 0, .int (-1)])), (tk, .inr (10, [.ref tp, .int 0, .int 0, .int 0, .int 0])), (tp, .inr (9, [.ref by_, .int 0])), (sc, .inr (1, [.ref bx2, .int 0, .int 0, .int 9, .int 0]))] H := hP
  have hD : va_D A [(h0, .inr (11, [.ref tp, .ref rd, .ref se, .ref ba, .ref of, .ref pl, .ref sr, .ref sc, .int 0])), (ba, .inl (E.2 4, 6, .inr (.inr (.inr (.inr fb))))), (bo, .inr (0, [.ref sp, .ref pa, .int 0, .ref ru, .ref co, .ref tr])), (co, .inr (1, [.ref bx, .int 0, .int 0, .int 9, .int 0])), (rd, .inr (6, [.ref tk, .int 0, .int (-1)])), (tk, .inr (10, [.ref tp, .int 0, .int 0, .int 0, .int 0])), (tp, .inr (9, [.ref by_, .int 0])), (sc, .inr (1, [.ref bx2, .int 0, .int 0, .int 9, .int 0]))] := hD
  refine lv_if_ne (tgt := 12) hx hb dX11_insurer_6 (by decide) (fun c3 => ?_) (fun c3 => ?_)
  · have b4 : inR b 0 5 = true := bn hw2 c3
    refine lv_aload_n hx hb dX11_insurer_12 rfl (lv_at hl 0 rfl) ?_
    refine va_get (D := E.1) (ci := 11) (v := .ref rd) (C := RX11) (T := TX11) (N := 9) hx hb hts inX11 hown hK hP 0 rfl rfl 1 (by decide) fl21 (fun _ h9 => h9) rfl dX11_insurer_13 ?_
    refine lv_aload_n hx hb dX11_insurer_16 rfl (lv_at hl 0 rfl) ?_
    refine va_get (D := E.1) (ci := 11) (v := .ref sc) (C := RX11) (T := TX11) (N := 9) hx hb hts inX11 hown hK hP 0 rfl rfl 7 (by decide) fl65 (fun _ h9 => h9) rfl dX11_insurer_17 ?_
    have hPc := hP.sub (ws' := [(rd, .inr (6, [.ref tk, .int 0, .int (-1)])), (tk, .inr (10, [.ref tp, .int 0, .int 0, .int 0, .int 0])), (tp, .inr (9, [.ref by_, .int 0])), (sc, .inr (1, [.ref bx2, .int 0, .int 0, .int 9, .int 0]))]) [4, 5, 6, 7] rfl
    have hDc := hD.sub (ws' := [(rd, .inr (6, [.ref tk, .int 0, .int (-1)])), (tk, .inr (10, [.ref tp, .int 0, .int 0, .int 0, .int 0])), (tp, .inr (9, [.ref by_, .int 0])), (sc, .inr (1, [.ref bx2, .int 0, .int 0, .int 9, .int 0]))]) [4, 5, 6, 7] (by decide) rfl
    have hFc := va_free (wc := [(rd, .inr (6, [.ref tk, .int 0, .int (-1)])), (tk, .inr (10, [.ref tp, .int 0, .int 0, .int 0, .int 0])), (tp, .inr (9, [.ref by_, .int 0])), (sc, .inr (1, [.ref bx2, .int 0, .int 0, .int 9, .int 0]))]) hD hS hA [4, 5, 6, 7] rfl
    refine va_calli (va_runV (As := [.ref sc]) (rest := []) ⟨hx, hb, hml, hown, hts⟩ (c_X6_readCover l E rd sc tk tp by_ bx2 H.size ) (cwV 1 hts gX11_insurer_X6_readCover rfl rfl rfl (by decide +kernel) ⟨Nat.le_of_ble_eq_true rfl, Nat.le_of_ble_eq_true rfl⟩) ⟨pcW_blind, va_recv hK hPc (ci := 6) (q0 := 0) rfl rfl, (pcW_pre hPc hkn hDc hst hS hFc)⟩ rfl rfl hl.1 rfl (lv_room (Nat.le_of_ble_eq_true rfl)) dX11_insurer_20 ⟨Nat.le_of_ble_eq_true rfl, Nat.le_of_ble_eq_true rfl⟩) hS (fun q _ h => hFc q h) hFc (fun r5 u t H1 locs ht hvm hw6 hB hz1 hk1 hS => ?_)
    obtain ⟨hP1, hD1⟩ := hB
    rw [ht] at hP1
    try dsimp only at hw6
    obtain ⟨hP, hD⟩ := va_join (wr := [(h0, .inr (11, [.ref tp, .ref rd, .ref se, .ref ba, .ref of, .ref pl, .ref sr, .ref sc, .int 0])), (ba, .inl (E.2 4, 6, .inr (.inr (.inr (.inr fb))))), (bo, .inr (0, [.ref sp, .ref pa, .int 0, .ref ru, .ref co, .ref tr])), (co, .inr (1, [.ref bx, .int 0, .int 0, .int 9, .int 0]))]) (w1 := [(rd, .inr (6, [.ref tk, .int 0, .int (-1)])), (tk, .inr (10, [.ref tp, .int 0, .int 0, .int 0, .int 0])), (tp, .inr (9, [.ref by_, .int 0])), (sc, .inr (1, [.ref bx2, .int 0, .int 0, .int 9, .int 0]))]) hP hD [4, 5, 6, 7] [0, 1, 2, 3] rfl rfl (by decide) (by decide) hk1 hFc hP1 hD1
    generalize H1 = H at hP hS ⊢
    have hP : va_P E.1 vwCl [(h0, .inr (11, [.ref tp, .ref rd, .ref se, .ref ba, .ref of, .ref pl, .ref sr, .ref sc, .int 0])), (ba, .inl (E.2 4, 6, .inr (.inr (.inr (.inr fb))))), (bo, .inr (0, [.ref sp, .ref pa, .int 0, .ref ru, .ref co, .ref tr])), (co, .inr (1, [.ref bx, .int 0, .int 0, .int 9, .int 0])), (rd, .inr (6, [.ref tk, .int 0, .int (-1)])), (tk, .inr (10, [.ref tp, .int 0, .int 0, .int 0, .int 0])), (tp, .inr (9, [.ref by_, .int 0])), (sc, .inr (1, [.ref bx2, .int 0, .int 0, .int 9, .int 0]))] H := hP
    have hD : va_D A [(h0, .inr (11, [.ref tp, .ref rd, .ref se, .ref ba, .ref of, .ref pl, .ref sr, .ref sc, .int 0])), (ba, .inl (E.2 4, 6, .inr (.inr (.inr (.inr fb))))), (bo, .inr (0, [.ref sp, .ref pa, .int 0, .ref ru, .ref co, .ref tr])), (co, .inr (1, [.ref bx, .int 0, .int 0, .int 9, .int 0])), (rd, .inr (6, [.ref tk, .int 0, .int (-1)])), (tk, .inr (10, [.ref tp, .int 0, .int 0, .int 0, .int 0])), (tp, .inr (9, [.ref by_, .int 0])), (sc, .inr (1, [.ref bx2, .int 0, .int 0, .int 9, .int 0]))] := hD
    obtain rfl : r5 = 1 := hw6
    refine lv_istore_n (lv' := [(2, .int 1), (0, .ref h0), (1, .int b)]) hx hb dX11_insurer_23 rfl hl (by decide) rfl (fun ls hl => ?_)
    refine lv_aload_n hx hb dX11_insurer_24 rfl (lv_at hl 1 rfl) ?_
    refine va_get (D := E.1) (ci := 11) (v := .ref tp) (C := RX11) (T := TX11) (N := 9) hx hb hts inX11 hown hK hP 0 rfl rfl 0 (by decide) fl10 (fun _ h9 => h9) rfl dX11_insurer_25 ?_
    refine lv_iconst (v := 0) hx hb dX11_insurer_28 (by decide) ?_
    refine va_put (D := E.1) (ci := 9) (v := .int 0) (ty := .int) (C := RX9) (T := TX9) (N := 2) hx hb hts inX9 tyX9 tyX9_ok nmX9 hown hK hP hD hS 6 rfl rfl 1 (by decide) fl73 (fun _ h9 => h9) rfl (by decide +kernel) rfl rfl (Nat.le_of_ble_eq_true rfl) dX11_insurer_29 (fun H locs hP hD hS => ?_)
    have hP : va_P E.1 vwCl [(h0, .inr (11, [.ref tp, .ref rd, .ref se, .ref ba, .ref of, .ref pl, .ref sr, .ref sc, .int 0])), (ba, .inl (E.2 4, 6, .inr (.inr (.inr (.inr fb))))), (bo, .inr (0, [.ref sp, .ref pa, .int 0, .ref ru, .ref co, .ref tr])), (co, .inr (1, [.ref bx, .int 0, .int 0, .int 9, .int 0])), (rd, .inr (6, [.ref tk, .int 0, .int (-1)])), (tk, .inr (10, [.ref tp, .int 0, .int 0, .int 0, .int 0])), (tp, .inr (9, [.ref by_, .int 0])), (sc, .inr (1, [.ref bx2, .int 0, .int 0, .int 9, .int 0]))] H := hP
    have hD : va_D A [(h0, .inr (11, [.ref tp, .ref rd, .ref se, .ref ba, .ref of, .ref pl, .ref sr, .ref sc, .int 0])), (ba, .inl (E.2 4, 6, .inr (.inr (.inr (.inr fb))))), (bo, .inr (0, [.ref sp, .ref pa, .int 0, .ref ru, .ref co, .ref tr])), (co, .inr (1, [.ref bx, .int 0, .int 0, .int 9, .int 0])), (rd, .inr (6, [.ref tk, .int 0, .int (-1)])), (tk, .inr (10, [.ref tp, .int 0, .int 0, .int 0, .int 0])), (tp, .inr (9, [.ref by_, .int 0])), (sc, .inr (1, [.ref bx2, .int 0, .int 0, .int 9, .int 0]))] := hD
    refine lv_iload_n hx hb dX11_insurer_32 rfl (lv_at hl 0 rfl) ?_
    refine lv_if_ne (tgt := 38) hx hb dX11_insurer_33 (by decide) (fun _ => ?_) (fun c9 => absurd c9 (by decide))
    refine lv_aload_n hx hb dX11_insurer_38 rfl (lv_at hl 1 rfl) ?_
    refine va_get (D := E.1) (ci := 11) (v := .ref ba) (C := RX11) (T := TX11) (N := 9) hx hb hts inX11 hown hK hP 0 rfl rfl 3 (by decide) fl34 (fun _ h9 => h9) rfl dX11_insurer_39 ?_
    refine lv_iload_n hx hb dX11_insurer_42 rfl (lv_at hl 2 rfl) ?_
    have hi7 : vp_in b 6 := inR_in (by decide) b4
    refine va_aldq hx hb hK hP 1 4 rfl rfl hi7 dX11_insurer_43 ?_
    rw [show va_rf (fb b.toNatClampNeg) = .ref bo from by rw [hfb b4]; rfl]
    refine va_get (D := E.1) (ci := 0) (v := .ref co) (C := RX0) (T := TX0) (N := 6) hx hb hts inX0 hown hK hP 2 rfl rfl 4 (by decide) fl128 (fun _ h9 => h9) rfl dX11_insurer_44 ?_
    refine lv_astore_n (lv' := [(3, .ref co), (2, .int 1), (0, .ref h0), (1, .int b)]) hx hb dX11_insurer_47 rfl hl (by decide) rfl (fun ls hl => ?_)
    refine lv_aload_n hx hb dX11_insurer_48 rfl (lv_at hl 2 rfl) ?_
    refine va_get (D := E.1) (ci := 11) (v := .ref ba) (C := RX11) (T := TX11) (N := 9) hx hb hts inX11 hown hK hP 0 rfl rfl 3 (by decide) fl34 (fun _ h9 => h9) rfl dX11_insurer_49 ?_
    refine lv_iload_n hx hb dX11_insurer_52 rfl (lv_at hl 3 rfl) ?_
    refine va_aldq hx hb hK hP 1 4 rfl rfl hi7 dX11_insurer_53 ?_
    rw [show va_rf (fb b.toNatClampNeg) = .ref bo from by rw [hfb b4]; rfl]
    refine lv_aload_n hx hb dX11_insurer_54 rfl (lv_at hl 2 rfl) ?_
    refine va_get (D := E.1) (ci := 11) (v := .ref sc) (C := RX11) (T := TX11) (N := 9) hx hb hts inX11 hown hK hP 0 rfl rfl 7 (by decide) fl65 (fun _ h9 => h9) rfl dX11_insurer_55 ?_
    refine va_put (D := E.1) (ci := 0) (v := .ref sc) (ty := .object "BoatsHome$Cover") (C := RX0) (T := TX0) (N := 6) hx hb hts inX0 tyX0 tyX0_ok nmX0 hown hK hP hD hS 2 rfl rfl 4 (by decide) fl128 (fun _ h9 => h9) rfl (by decide +kernel) rfl rfl (Nat.le_of_ble_eq_true rfl) dX11_insurer_58 (fun H locs hP hD hS => ?_)
    have hP : va_P E.1 vwCl [(h0, .inr (11, [.ref tp, .ref rd, .ref se, .ref ba, .ref of, .ref pl, .ref sr, .ref sc, .int 0])), (ba, .inl (E.2 4, 6, .inr (.inr (.inr (.inr fb))))), (bo, .inr (0, [.ref sp, .ref pa, .int 0, .ref ru, .ref sc, .ref tr])), (co, .inr (1, [.ref bx, .int 0, .int 0, .int 9, .int 0])), (rd, .inr (6, [.ref tk, .int 0, .int (-1)])), (tk, .inr (10, [.ref tp, .int 0, .int 0, .int 0, .int 0])), (tp, .inr (9, [.ref by_, .int 0])), (sc, .inr (1, [.ref bx2, .int 0, .int 0, .int 9, .int 0]))] H := hP
    have hD : va_D A [(h0, .inr (11, [.ref tp, .ref rd, .ref se, .ref ba, .ref of, .ref pl, .ref sr, .ref sc, .int 0])), (ba, .inl (E.2 4, 6, .inr (.inr (.inr (.inr fb))))), (bo, .inr (0, [.ref sp, .ref pa, .int 0, .ref ru, .ref sc, .ref tr])), (co, .inr (1, [.ref bx, .int 0, .int 0, .int 9, .int 0])), (rd, .inr (6, [.ref tk, .int 0, .int (-1)])), (tk, .inr (10, [.ref tp, .int 0, .int 0, .int 0, .int 0])), (tp, .inr (9, [.ref by_, .int 0])), (sc, .inr (1, [.ref bx2, .int 0, .int 0, .int 9, .int 0]))] := hD
    refine lv_aload_n hx hb dX11_insurer_61 rfl (lv_at hl 2 rfl) ?_
    refine lv_aload_n hx hb dX11_insurer_62 rfl (lv_at hl 0 rfl) ?_
    refine va_put (D := E.1) (ci := 11) (v := .ref co) (ty := .object "BoatsHome$Cover") (C := RX11) (T := TX11) (N := 9) hx hb hts inX11 tyX11 tyX11_ok nmX11 hown hK hP hD hS 0 rfl rfl 7 (by decide) fl65 (fun _ h9 => h9) rfl (by decide +kernel) rfl rfl (Nat.le_of_ble_eq_true rfl) dX11_insurer_63 (fun H locs hP hD hS => ?_)
    have hP : va_P E.1 vwCl [(h0, .inr (11, [.ref tp, .ref rd, .ref se, .ref ba, .ref of, .ref pl, .ref sr, .ref co, .int 0])), (ba, .inl (E.2 4, 6, .inr (.inr (.inr (.inr fb))))), (bo, .inr (0, [.ref sp, .ref pa, .int 0, .ref ru, .ref sc, .ref tr])), (co, .inr (1, [.ref bx, .int 0, .int 0, .int 9, .int 0])), (rd, .inr (6, [.ref tk, .int 0, .int (-1)])), (tk, .inr (10, [.ref tp, .int 0, .int 0, .int 0, .int 0])), (tp, .inr (9, [.ref by_, .int 0])), (sc, .inr (1, [.ref bx2, .int 0, .int 0, .int 9, .int 0]))] H := hP
    have hD : va_D A [(h0, .inr (11, [.ref tp, .ref rd, .ref se, .ref ba, .ref of, .ref pl, .ref sr, .ref co, .int 0])), (ba, .inl (E.2 4, 6, .inr (.inr (.inr (.inr fb))))), (bo, .inr (0, [.ref sp, .ref pa, .int 0, .ref ru, .ref sc, .ref tr])), (co, .inr (1, [.ref bx, .int 0, .int 0, .int 9, .int 0])), (rd, .inr (6, [.ref tk, .int 0, .int (-1)])), (tk, .inr (10, [.ref tp, .int 0, .int 0, .int 0, .int 0])), (tp, .inr (9, [.ref by_, .int 0])), (sc, .inr (1, [.ref bx2, .int 0, .int 0, .int 9, .int 0]))] := hD
    refine lv_aload_n hx hb dX11_insurer_66 rfl (lv_at hl 2 rfl) ?_
    refine va_get (D := E.1) (ci := 11) (v := .ref ba) (C := RX11) (T := TX11) (N := 9) hx hb hts inX11 hown hK hP 0 rfl rfl 3 (by decide) fl34 (fun _ h9 => h9) rfl dX11_insurer_67 ?_
    refine lv_iload_n hx hb dX11_insurer_70 rfl (lv_at hl 3 rfl) ?_
    refine va_aldq hx hb hK hP 1 4 rfl rfl hi7 dX11_insurer_71 ?_
    rw [show va_rf (fb b.toNatClampNeg) = .ref bo from by rw [hfb b4]; rfl]
    refine va_get (D := E.1) (ci := 0) (v := .ref sc) (C := RX0) (T := TX0) (N := 6) hx hb hts inX0 hown hK hP 2 rfl rfl 4 (by decide) fl128 (fun _ h9 => h9) rfl dX11_insurer_72 ?_
    refine va_get (D := E.1) (ci := 1) (v := .int 0) (C := RX1) (T := TX1) (N := 5) hx hb hts inX1 hown hK hP 7 rfl rfl 4 (by decide) fl131 (fun _ h9 => h9) rfl dX11_insurer_75 ?_
    have hP9 := hP.sub (ws' := []) [] rfl
    have hD9 := hD.sub (ws' := []) [] (by decide) rfl
    exact W.iret (v := 0) hx hb hr (fun t ht hW => ⟨⟨0, (), rfl, (by first | (rw [b4]; done) | (rw [b4]; rfl)), by rw [ht]; exact hP9, hD9⟩, hS.F ht⟩) hS.2.2 dX11_insurer_78
  · have b8 : inR b 0 5 = false := bz hw2 c3
    refine lv_bipush (v := (-2)) hx hb dX11_insurer_9 (by decide) ?_
    have hP9 := hP.sub (ws' := []) [] rfl
    have hD9 := hD.sub (ws' := []) [] (by decide) rfl
    exact W.iret (v := (-2)) hx hb hr (fun t ht hW => ⟨⟨(-2), (), rfl, (by first | (rw [b8]; done) | (rw [b8]; rfl)), by rw [ht]; exact hP9, hD9⟩, hS.F ht⟩) hS.2.2 dX11_insurer_11
set_option maxHeartbeats 4000000 in
set_option maxRecDepth 100000 in
theorem c_X0_broken (l : Launch) (E : vE) (h0 : Nat) (sp : Nat) (pa : Nat) (ru : Nat) (co : Nat) (tr : Nat) (fp : Nat → Int32) (sz : Nat) (hfp : ∀ k, k < 4 → fp k = 10000) : Met l yX0_broken wsX0_broken ({ frames := 0, cells := 0, slots := 0, locals := 0 }) (pcW E [.ref h0] sz [(h0, .inr (0, [.ref sp, .ref pa, .int 0, .ref ru, .ref co, .ref tr])), (pa, .inl (E.2 0, 4, .inl fp))]) (va_Qi (fun (r : Int32) (_ : Unit) => r = 0) (fun (_ : Unit) (t : State) => wB E (va_A [(h0, .inr (0, [.ref sp, .ref pa, .int 0, .ref ru, .ref co, .ref tr])), (pa, .inl (E.2 0, 4, .inl fp))] sz) [] t) (va_A [(h0, .inr (0, [.ref sp, .ref pa, .int 0, .ref ru, .ref co, .ref tr])), (pa, .inl (E.2 0, 4, .inl fp))] sz)) 0 0 (va_A [(h0, .inr (0, [.ref sp, .ref pa, .int 0, .ref ru, .ref co, .ref tr])), (pa, .inl (E.2 0, 4, .inl fp))] sz) := by
  refine Met.ofW (cc := cX0_broken) (maxL := 3) (ret := (some .int)) (by decide) rfl ?_
  intro p e s m args below meth c s₁ B hml hv
  obtain ⟨rfl, hsz, hP, hkn, hD0, hst⟩ := hv
  have hx := B.exec
  have hb := B.bytes
  have hr := B.returns
  have hts := atoms_spec (ws := wsX0_broken) B.pre
  have hown : s.vm.findClass RX0 = some m.cls := findClass_of_methodNamed B.named
  have hlocks := B.notSynchronized
  subst hsz
  have hD := hD0.self (sz := s.heap.size)
  have hK := hkn.1
  have hAO := hkn.2.2
  generalize hAe : va_A [(h0, .inr (0, [.ref sp, .ref pa, .int 0, .ref ru, .ref co, .ref tr])), (pa, .inl (E.2 0, 4, .inl fp))] s.heap.size = A at hD hst ⊢
  have hA : ∀ q : Nat, s.heap.size ≤ q → A q := fun q h => by rw [← hAe]; exact Or.inr h
  have hS : va_S A s.heap s.heap [] := va_S.rf
  have hP : va_P E.1 vwCl [(h0, .inr (0, [.ref sp, .ref pa, .int 0, .ref ru, .ref co, .ref tr])), (pa, .inl (E.2 0, 4, .inl fp))] s.heap := hP
  have hl := lv_entry ([.ref h0]) (n := 3) (Nat.le_of_ble_eq_true rfl)
  rw [lg_entry_eq]
  generalize (lg_sl ([.ref h0]) ++ List.replicate (3 - (lg_sl ([.ref h0])).length) Slot.unset).toArray = ls at hl ⊢
  have hl : lv_has ls 3 [(0, .ref h0)] := hl
  have fl15 := hts (.fieldLink RX0 15 "BoatsHome$Boat" "parts" "[I") (by decide +kernel)
  have inX0 : ∀ w ∈ u_ws RX0 TX0 6, w ∈ wsX0_broken := by decide +kernel
  refine lv_iconst (v := 0) hx hb dX0_broken_0 (by decide) ?_
  refine lv_istore_n (lv' := [(1, .int 0), (0, .ref h0)]) hx hb dX0_broken_1 rfl hl (by decide) rfl (fun ls hl => ?_)
  refine lv_iconst (v := 0) hx hb dX0_broken_2 (by decide) ?_
  refine lv_istore_n (lv' := [(2, .int 0), (1, .int 0), (0, .ref h0)]) hx hb dX0_broken_3 rfl hl (by decide) rfl (fun ls hl => ?_)
  refine lv_iload_n hx hb dX0_broken_4 rfl (lv_at hl 0 rfl) ?_
  refine lv_iconst (v := 4) hx hb dX0_broken_5 (by decide) ?_
  refine lv_icmp_ge (tgt := 32) hx hb dX0_broken_6 (by decide) (fun c9 => absurd c9 (by decide)) (fun _ => ?_)
  refine lv_iload_n hx hb dX0_broken_9 rfl (lv_at hl 1 rfl) ?_
  refine lv_aload_n hx hb dX0_broken_10 rfl (lv_at hl 2 rfl) ?_
  refine va_get (D := E.1) (ci := 0) (v := .ref pa) (C := RX0) (T := TX0) (N := 6) hx hb hts inX0 hown hK hP 0 rfl rfl 1 (by decide) fl15 (fun _ h9 => h9) rfl dX0_broken_11 ?_
  refine lv_iload_n hx hb dX0_broken_14 rfl (lv_at hl 0 rfl) ?_
  refine va_iald hx hb hK hP 1 0 rfl rfl (show vp_in 0 4 from by unfold vp_in; decide) dX0_broken_15 ?_
  refine lv_topi (fun x1 ex1 => ?_)
  obtain rfl : x1 = 10000 := ex1.trans (hfp 0 (by decide))
  refine lv_if_ge (tgt := 23) hx hb dX0_broken_16 (by decide) (fun _ => ?_) (fun c9 => absurd c9 (by decide))
  refine lv_iconst (v := 0) hx hb dX0_broken_23 (by decide) ?_
  refine lv_iadd hx hb dX0_broken_24 ?_
  refine lv_topi (fun x2 ex2 => ?_)
  obtain rfl : x2 = 0 := ex2.trans (by decide +kernel)
  refine lv_istore_n (lv' := [(1, .int 0), (2, .int 0), (0, .ref h0)]) hx hb dX0_broken_25 rfl hl (by decide) rfl (fun ls hl => ?_)
  refine lv_iinc (v := 1) (lv' := [(2, .int 1), (1, .int 0), (0, .ref h0)]) hx hb dX0_broken_26 hl (k := 1) rfl (by decide) (by decide) rfl (fun ls hl => ?_)
  refine lv_goto (tgt := 4) hx hb dX0_broken_29 (by decide) ?_
  refine lv_iload_n hx hb dX0_broken_4 rfl (lv_at hl 0 rfl) ?_
  refine lv_iconst (v := 4) hx hb dX0_broken_5 (by decide) ?_
  refine lv_icmp_ge (tgt := 32) hx hb dX0_broken_6 (by decide) (fun c9 => absurd c9 (by decide)) (fun _ => ?_)
  refine lv_iload_n hx hb dX0_broken_9 rfl (lv_at hl 1 rfl) ?_
  refine lv_aload_n hx hb dX0_broken_10 rfl (lv_at hl 2 rfl) ?_
  refine va_get (D := E.1) (ci := 0) (v := .ref pa) (C := RX0) (T := TX0) (N := 6) hx hb hts inX0 hown hK hP 0 rfl rfl 1 (by decide) fl15 (fun _ h9 => h9) rfl dX0_broken_11 ?_
  refine lv_iload_n hx hb dX0_broken_14 rfl (lv_at hl 0 rfl) ?_
  refine va_iald hx hb hK hP 1 0 rfl rfl (show vp_in 1 4 from by unfold vp_in; decide) dX0_broken_15 ?_
  refine lv_topi (fun x3 ex3 => ?_)
  obtain rfl : x3 = 10000 := ex3.trans (hfp 1 (by decide))
  refine lv_if_ge (tgt := 23) hx hb dX0_broken_16 (by decide) (fun _ => ?_) (fun c9 => absurd c9 (by decide))
  refine lv_iconst (v := 0) hx hb dX0_broken_23 (by decide) ?_
  refine lv_iadd hx hb dX0_broken_24 ?_
  refine lv_topi (fun x4 ex4 => ?_)
  obtain rfl : x4 = 0 := ex4.trans (by decide +kernel)
  refine lv_istore_n (lv' := [(1, .int 0), (2, .int 1), (0, .ref h0)]) hx hb dX0_broken_25 rfl hl (by decide) rfl (fun ls hl => ?_)
  refine lv_iinc (v := 2) (lv' := [(2, .int 2), (1, .int 0), (0, .ref h0)]) hx hb dX0_broken_26 hl (k := 1) rfl (by decide) (by decide) rfl (fun ls hl => ?_)
  refine lv_goto (tgt := 4) hx hb dX0_broken_29 (by decide) ?_
  refine lv_iload_n hx hb dX0_broken_4 rfl (lv_at hl 0 rfl) ?_
  refine lv_iconst (v := 4) hx hb dX0_broken_5 (by decide) ?_
  refine lv_icmp_ge (tgt := 32) hx hb dX0_broken_6 (by decide) (fun c9 => absurd c9 (by decide)) (fun _ => ?_)
  refine lv_iload_n hx hb dX0_broken_9 rfl (lv_at hl 1 rfl) ?_
  refine lv_aload_n hx hb dX0_broken_10 rfl (lv_at hl 2 rfl) ?_
  refine va_get (D := E.1) (ci := 0) (v := .ref pa) (C := RX0) (T := TX0) (N := 6) hx hb hts inX0 hown hK hP 0 rfl rfl 1 (by decide) fl15 (fun _ h9 => h9) rfl dX0_broken_11 ?_
  refine lv_iload_n hx hb dX0_broken_14 rfl (lv_at hl 0 rfl) ?_
  refine va_iald hx hb hK hP 1 0 rfl rfl (show vp_in 2 4 from by unfold vp_in; decide) dX0_broken_15 ?_
  refine lv_topi (fun x5 ex5 => ?_)
  obtain rfl : x5 = 10000 := ex5.trans (hfp 2 (by decide))
  refine lv_if_ge (tgt := 23) hx hb dX0_broken_16 (by decide) (fun _ => ?_) (fun c9 => absurd c9 (by decide))
  refine lv_iconst (v := 0) hx hb dX0_broken_23 (by decide) ?_
  refine lv_iadd hx hb dX0_broken_24 ?_
  refine lv_topi (fun x6 ex6 => ?_)
  obtain rfl : x6 = 0 := ex6.trans (by decide +kernel)
  refine lv_istore_n (lv' := [(1, .int 0), (2, .int 2), (0, .ref h0)]) hx hb dX0_broken_25 rfl hl (by decide) rfl (fun ls hl => ?_)
  refine lv_iinc (v := 3) (lv' := [(2, .int 3), (1, .int 0), (0, .ref h0)]) hx hb dX0_broken_26 hl (k := 1) rfl (by decide) (by decide) rfl (fun ls hl => ?_)
  refine lv_goto (tgt := 4) hx hb dX0_broken_29 (by decide) ?_
  refine lv_iload_n hx hb dX0_broken_4 rfl (lv_at hl 0 rfl) ?_
  refine lv_iconst (v := 4) hx hb dX0_broken_5 (by decide) ?_
  refine lv_icmp_ge (tgt := 32) hx hb dX0_broken_6 (by decide) (fun c9 => absurd c9 (by decide)) (fun _ => ?_)
  refine lv_iload_n hx hb dX0_broken_9 rfl (lv_at hl 1 rfl) ?_
  refine lv_aload_n hx hb dX0_broken_10 rfl (lv_at hl 2 rfl) ?_
  refine va_get (D := E.1) (ci := 0) (v := .ref pa) (C := RX0) (T := TX0) (N := 6) hx hb hts inX0 hown hK hP 0 rfl rfl 1 (by decide) fl15 (fun _ h9 => h9) rfl dX0_broken_11 ?_
  refine lv_iload_n hx hb dX0_broken_14 rfl (lv_at hl 0 rfl) ?_
  refine va_iald hx hb hK hP 1 0 rfl rfl (show vp_in 3 4 from by unfold vp_in; decide) dX0_broken_15 ?_
  refine lv_topi (fun x7 ex7 => ?_)
  obtain rfl : x7 = 10000 := ex7.trans (hfp 3 (by decide))
  refine lv_if_ge (tgt := 23) hx hb dX0_broken_16 (by decide) (fun _ => ?_) (fun c9 => absurd c9 (by decide))
  refine lv_iconst (v := 0) hx hb dX0_broken_23 (by decide) ?_
  refine lv_iadd hx hb dX0_broken_24 ?_
  refine lv_topi (fun x8 ex8 => ?_)
  obtain rfl : x8 = 0 := ex8.trans (by decide +kernel)
  refine lv_istore_n (lv' := [(1, .int 0), (2, .int 3), (0, .ref h0)]) hx hb dX0_broken_25 rfl hl (by decide) rfl (fun ls hl => ?_)
  refine lv_iinc (v := 4) (lv' := [(2, .int 4), (1, .int 0), (0, .ref h0)]) hx hb dX0_broken_26 hl (k := 1) rfl (by decide) (by decide) rfl (fun ls hl => ?_)
  refine lv_goto (tgt := 4) hx hb dX0_broken_29 (by decide) ?_
  refine lv_iload_n hx hb dX0_broken_4 rfl (lv_at hl 0 rfl) ?_
  refine lv_iconst (v := 4) hx hb dX0_broken_5 (by decide) ?_
  refine lv_icmp_ge (tgt := 32) hx hb dX0_broken_6 (by decide) (fun _ => ?_) (fun c9 => absurd c9 (by decide))
  refine lv_iload_n hx hb dX0_broken_32 rfl (lv_at hl 1 rfl) ?_
  have hP9 := hP.sub (ws' := []) [] rfl
  have hD9 := hD.sub (ws' := []) [] (by decide) rfl
  exact W.iret (v := 0) hx hb hr (fun t ht hW => ⟨⟨0, (), rfl, rfl, by rw [ht]; exact hP9, hD9⟩, hS.F ht⟩) hS.2.2 dX0_broken_33
set_option maxHeartbeats 4000000 in
set_option maxRecDepth 100000 in
theorem c_X11_boat (l : Launch) (E : vE) (h0 : Nat) (tp : Nat) (rd : Nat) (se : Nat) (ba : Nat) (of : Nat) (pl : Nat) (sr : Nat) (sc : Nat) (bo : Nat) (sp : Nat) (pa : Nat) (ru : Nat) (co : Nat) (tr : Nat) (fb : Nat → Option Nat) (fp : Nat → Int32) (b : Int32) (what : Int32) (sz : Nat) (hfb : inR b 0 5 = true → fb b.toNatClampNeg = some bo) (hfp : ∀ k, k < 4 → fp k = 10000) : Met l yX11_boat wsX11_boat ({ frames := 2, cells := 0, slots := 0, locals := 40 }) (pcW E [.ref h0, .int b, .int what] sz [(h0, .inr (11, [.ref tp, .ref rd, .ref se, .ref ba, .ref of, .ref pl, .ref sr, .ref sc, .int 0])), (ba, .inl (E.2 4, 6, .inr (.inr (.inr (.inr fb))))), (bo, .inr (0, [.ref sp, .ref pa, .int 0, .ref ru, .ref co, .ref tr])), (pa, .inl (E.2 0, 4, .inl fp))]) (va_Qi (fun (r : Int32) (_ : Unit) => r = boatS b what) (fun (_ : Unit) (t : State) => wB E (va_A [(h0, .inr (11, [.ref tp, .ref rd, .ref se, .ref ba, .ref of, .ref pl, .ref sr, .ref sc, .int 0])), (ba, .inl (E.2 4, 6, .inr (.inr (.inr (.inr fb))))), (bo, .inr (0, [.ref sp, .ref pa, .int 0, .ref ru, .ref co, .ref tr])), (pa, .inl (E.2 0, 4, .inl fp))] sz) [] t) (va_A [(h0, .inr (11, [.ref tp, .ref rd, .ref se, .ref ba, .ref of, .ref pl, .ref sr, .ref sc, .int 0])), (ba, .inl (E.2 4, 6, .inr (.inr (.inr (.inr fb))))), (bo, .inr (0, [.ref sp, .ref pa, .int 0, .ref ru, .ref co, .ref tr])), (pa, .inl (E.2 0, 4, .inl fp))] sz)) 0 0 (va_A [(h0, .inr (11, [.ref tp, .ref rd, .ref se, .ref ba, .ref of, .ref pl, .ref sr, .ref sc, .int 0])), (ba, .inl (E.2 4, 6, .inr (.inr (.inr (.inr fb))))), (bo, .inr (0, [.ref sp, .ref pa, .int 0, .ref ru, .ref co, .ref tr])), (pa, .inl (E.2 0, 4, .inl fp))] sz) := by
  refine Met.ofW (cc := cX11_boat) (maxL := 3) (ret := (some .int)) (by decide) rfl ?_
  intro p e s m args below meth c s₁ B hml hv
  obtain ⟨rfl, hsz, hP, hkn, hD0, hst⟩ := hv
  have hx := B.exec
  have hb := B.bytes
  have hr := B.returns
  have hts := atoms_spec (ws := wsX11_boat) B.pre
  have hown : s.vm.findClass RX11 = some m.cls := findClass_of_methodNamed B.named
  have hlocks := B.notSynchronized
  subst hsz
  have hD := hD0.self (sz := s.heap.size)
  have hK := hkn.1
  have hAO := hkn.2.2
  generalize hAe : va_A [(h0, .inr (11, [.ref tp, .ref rd, .ref se, .ref ba, .ref of, .ref pl, .ref sr, .ref sc, .int 0])), (ba, .inl (E.2 4, 6, .inr (.inr (.inr (.inr fb))))), (bo, .inr (0, [.ref sp, .ref pa, .int 0, .ref ru, .ref co, .ref tr])), (pa, .inl (E.2 0, 4, .inl fp))] s.heap.size = A at hD hst ⊢
  have hA : ∀ q : Nat, s.heap.size ≤ q → A q := fun q h => by rw [← hAe]; exact Or.inr h
  have hS : va_S A s.heap s.heap [] := va_S.rf
  have hP : va_P E.1 vwCl [(h0, .inr (11, [.ref tp, .ref rd, .ref se, .ref ba, .ref of, .ref pl, .ref sr, .ref sc, .int 0])), (ba, .inl (E.2 4, 6, .inr (.inr (.inr (.inr fb))))), (bo, .inr (0, [.ref sp, .ref pa, .int 0, .ref ru, .ref co, .ref tr])), (pa, .inl (E.2 0, 4, .inl fp))] s.heap := hP
  have hl := lv_entry ([.ref h0, .int b, .int what]) (n := 3) (Nat.le_of_ble_eq_true rfl)
  rw [lg_entry_eq]
  generalize (lg_sl ([.ref h0, .int b, .int what]) ++ List.replicate (3 - (lg_sl ([.ref h0, .int b, .int what])).length) Slot.unset).toArray = ls at hl ⊢
  have hl : lv_has ls 3 [(0, .ref h0), (1, .int b), (2, .int what)] := hl
  have fl34 := hts (.fieldLink RX11 34 "BoatsHome" "boats" "[LBoatsHome$Boat;") (by decide +kernel)
  have fl102 := hts (.fieldLink RX11 102 "BoatsHome$Boat" "litres" "I") (by decide +kernel)
  have fl105 := hts (.fieldLink RX11 105 "BoatsHome$Boat" "parts" "[I") (by decide +kernel)
  have inX0 : ∀ w ∈ u_ws RX0 TX0 6, w ∈ wsX11_boat := by decide +kernel
  have inX11 : ∀ w ∈ u_ws RX11 TX11 9, w ∈ wsX11_boat := by decide +kernel
  refine lv_iload_n hx hb dX11_boat_0 rfl (lv_at hl 1 rfl) ?_
  refine lv_bipush (v := 6) hx hb dX11_boat_1 (by decide) ?_
  have hPc := hP.sub (ws' := []) [] rfl
  have hDc := hD.sub (ws' := []) [] (by decide) rfl
  have hFc := va_free (wc := []) hD hS hA [] rfl
  refine va_calli (va_runS (As := [.int b, .int 6]) (rest := []) ⟨hx, hb, hml, hown, hts⟩ (c_X11_below l E b 6 5 s.heap.size (lt_le (by decide))) (va_cwS 2 hts gX11_boat_X11_below rfl rfl rfl (by decide +kernel) ⟨Nat.le_of_ble_eq_true rfl, Nat.le_of_ble_eq_true rfl⟩) ⟨pcW_blind, (pcW_pre hPc hkn hDc hst hS hFc)⟩ rfl rfl hl.1 rfl (lv_room (Nat.le_of_ble_eq_true rfl)) dX11_boat_3 ⟨Nat.le_of_ble_eq_true rfl, Nat.le_of_ble_eq_true rfl⟩) hS (fun q _ h => hFc q h) hFc (fun r1 u t H1 locs ht hvm hw2 hB hz1 hk1 hS => ?_)
  obtain ⟨hP1, hD1⟩ := hB
  rw [ht] at hP1
  try dsimp only at hw2
  obtain ⟨hP, hD⟩ := va_join (wr := [(h0, .inr (11, [.ref tp, .ref rd, .ref se, .ref ba, .ref of, .ref pl, .ref sr, .ref sc, .int 0])), (ba, .inl (E.2 4, 6, .inr (.inr (.inr (.inr fb))))), (bo, .inr (0, [.ref sp, .ref pa, .int 0, .ref ru, .ref co, .ref tr])), (pa, .inl (E.2 0, 4, .inl fp))]) (w1 := []) hP hD [] [0, 1, 2, 3] rfl rfl (by decide) (by decide) hk1 hFc hP1 hD1
  generalize H1 = H at hP hS ⊢
  have hP : va_P E.1 vwCl [(h0, .inr (11, [.ref tp, .ref rd, .ref se, .ref ba, .ref of, .ref pl, .ref sr, .ref sc, .int 0])), (ba, .inl (E.2 4, 6, .inr (.inr (.inr (.inr fb))))), (bo, .inr (0, [.ref sp, .ref pa, .int 0, .ref ru, .ref co, .ref tr])), (pa, .inl (E.2 0, 4, .inl fp))] H := hP
  have hD : va_D A [(h0, .inr (11, [.ref tp, .ref rd, .ref se, .ref ba, .ref of, .ref pl, .ref sr, .ref sc, .int 0])), (ba, .inl (E.2 4, 6, .inr (.inr (.inr (.inr fb))))), (bo, .inr (0, [.ref sp, .ref pa, .int 0, .ref ru, .ref co, .ref tr])), (pa, .inl (E.2 0, 4, .inl fp))] := hD
  refine lv_if_ne (tgt := 12) hx hb dX11_boat_6 (by decide) (fun c3 => ?_) (fun c3 => ?_)
  · have b4 : inR b 0 5 = true := bn hw2 c3
    refine lv_iload_n hx hb dX11_boat_12 rfl (lv_at hl 2 rfl) ?_
    refine lv_bipush (v := 10) hx hb dX11_boat_13 (by decide) ?_
    refine lv_bipush (v := 13) hx hb dX11_boat_15 (by decide) ?_
    have hPc := hP.sub (ws' := []) [] rfl
    have hDc := hD.sub (ws' := []) [] (by decide) rfl
    have hFc := va_free (wc := []) hD hS hA [] rfl
    refine va_calli (va_runS (As := [.int what, .int 10, .int 13]) (rest := []) ⟨hx, hb, hml, hown, hts⟩ (c_X11_within l E what 10 13 H.size ) (va_cwS 3 hts gX11_boat_X11_within rfl rfl rfl (by decide +kernel) ⟨Nat.le_of_ble_eq_true rfl, Nat.le_of_ble_eq_true rfl⟩) ⟨pcW_blind, (pcW_pre hPc hkn hDc hst hS hFc)⟩ rfl rfl hl.1 rfl (lv_room (Nat.le_of_ble_eq_true rfl)) dX11_boat_17 ⟨Nat.le_of_ble_eq_true rfl, Nat.le_of_ble_eq_true rfl⟩) hS (fun q _ h => hFc q h) hFc (fun r5 u t H1 locs ht hvm hw6 hB hz1 hk1 hS => ?_)
    obtain ⟨hP1, hD1⟩ := hB
    rw [ht] at hP1
    try dsimp only at hw6
    obtain ⟨hP, hD⟩ := va_join (wr := [(h0, .inr (11, [.ref tp, .ref rd, .ref se, .ref ba, .ref of, .ref pl, .ref sr, .ref sc, .int 0])), (ba, .inl (E.2 4, 6, .inr (.inr (.inr (.inr fb))))), (bo, .inr (0, [.ref sp, .ref pa, .int 0, .ref ru, .ref co, .ref tr])), (pa, .inl (E.2 0, 4, .inl fp))]) (w1 := []) hP hD [] [0, 1, 2, 3] rfl rfl (by decide) (by decide) hk1 hFc hP1 hD1
    generalize H1 = H at hP hS ⊢
    have hP : va_P E.1 vwCl [(h0, .inr (11, [.ref tp, .ref rd, .ref se, .ref ba, .ref of, .ref pl, .ref sr, .ref sc, .int 0])), (ba, .inl (E.2 4, 6, .inr (.inr (.inr (.inr fb))))), (bo, .inr (0, [.ref sp, .ref pa, .int 0, .ref ru, .ref co, .ref tr])), (pa, .inl (E.2 0, 4, .inl fp))] H := hP
    have hD : va_D A [(h0, .inr (11, [.ref tp, .ref rd, .ref se, .ref ba, .ref of, .ref pl, .ref sr, .ref sc, .int 0])), (ba, .inl (E.2 4, 6, .inr (.inr (.inr (.inr fb))))), (bo, .inr (0, [.ref sp, .ref pa, .int 0, .ref ru, .ref co, .ref tr])), (pa, .inl (E.2 0, 4, .inl fp))] := hD
    refine lv_if_eq (tgt := 38) hx hb dX11_boat_20 (by decide) (fun c7 => ?_) (fun c7 => ?_)
    · have b8 : inR what 10 13 = false := bz hw6 c7
      refine lv_iload_n hx hb dX11_boat_38 rfl (lv_at hl 2 rfl) ?_
      by_cases c9 : what = 0
      · refine lv_lookup (off := 25) (tgt := 64) hx hb dX11_boat_39 (by decide) (by rw [c9]; decide) (by decide) ?_
        refine lv_aload_n hx hb dX11_boat_64 rfl (lv_at hl 0 rfl) ?_
        refine va_get (D := E.1) (ci := 11) (v := .ref ba) (C := RX11) (T := TX11) (N := 9) hx hb hts inX11 hown hK hP 0 rfl rfl 3 (by decide) fl34 (fun _ h9 => h9) rfl dX11_boat_65 ?_
        refine lv_iload_n hx hb dX11_boat_68 rfl (lv_at hl 1 rfl) ?_
        have hi10 : vp_in b 6 := inR_in (by decide) b4
        refine va_aldq hx hb hK hP 1 4 rfl rfl hi10 dX11_boat_69 ?_
        rw [show va_rf (fb b.toNatClampNeg) = .ref bo from by rw [hfb b4]; rfl]
        refine va_get (D := E.1) (ci := 0) (v := .int 0) (C := RX0) (T := TX0) (N := 6) hx hb hts inX0 hown hK hP 2 rfl rfl 2 (by decide) fl102 (fun _ h9 => h9) rfl dX11_boat_70 ?_
        have hP9 := hP.sub (ws' := []) [] rfl
        have hD9 := hD.sub (ws' := []) [] (by decide) rfl
        exact W.iret (v := 0) hx hb hr (fun t ht hW => ⟨⟨0, (), rfl, (by unfold boatS; first | (rw [b4, b8, decide_eq_true c9]; done) | (rw [b4, b8, decide_eq_true c9]; rfl)), by rw [ht]; exact hP9, hD9⟩, hS.F ht⟩) hS.2.2 dX11_boat_73
      by_cases c11 : what = 1
      · refine lv_lookup (off := 35) (tgt := 74) hx hb dX11_boat_39 (by decide) (by rw [c11]; decide) (by decide) ?_
        refine lv_aload_n hx hb dX11_boat_74 rfl (lv_at hl 0 rfl) ?_
        refine va_get (D := E.1) (ci := 11) (v := .ref ba) (C := RX11) (T := TX11) (N := 9) hx hb hts inX11 hown hK hP 0 rfl rfl 3 (by decide) fl34 (fun _ h9 => h9) rfl dX11_boat_75 ?_
        refine lv_iload_n hx hb dX11_boat_78 rfl (lv_at hl 1 rfl) ?_
        have hi12 : vp_in b 6 := inR_in (by decide) b4
        refine va_aldq hx hb hK hP 1 4 rfl rfl hi12 dX11_boat_79 ?_
        rw [show va_rf (fb b.toNatClampNeg) = .ref bo from by rw [hfb b4]; rfl]
        have hPc := hP.sub (ws' := [(bo, .inr (0, [.ref sp, .ref pa, .int 0, .ref ru, .ref co, .ref tr])), (pa, .inl (E.2 0, 4, .inl fp))]) [2, 3] rfl
        have hDc := hD.sub (ws' := [(bo, .inr (0, [.ref sp, .ref pa, .int 0, .ref ru, .ref co, .ref tr])), (pa, .inl (E.2 0, 4, .inl fp))]) [2, 3] (by decide) rfl
        have hFc := va_free (wc := [(bo, .inr (0, [.ref sp, .ref pa, .int 0, .ref ru, .ref co, .ref tr])), (pa, .inl (E.2 0, 4, .inl fp))]) hD hS hA [2, 3] rfl
        refine va_calli (va_runV (As := []) (rest := []) ⟨hx, hb, hml, hown, hts⟩ (c_X0_broken l E bo sp pa ru co tr fp H.size hfp) (cwV 0 hts gX11_boat_X0_broken rfl rfl rfl (by decide +kernel) ⟨Nat.le_of_ble_eq_true rfl, Nat.le_of_ble_eq_true rfl⟩) ⟨pcW_blind, va_recv hK hPc (ci := 0) (q0 := 0) rfl rfl, (pcW_pre hPc hkn hDc hst hS hFc)⟩ rfl rfl hl.1 rfl (lv_room (Nat.le_of_ble_eq_true rfl)) dX11_boat_80 ⟨Nat.le_of_ble_eq_true rfl, Nat.le_of_ble_eq_true rfl⟩) hS (fun q _ h => hFc q h) hFc (fun r13 u t H1 locs ht hvm hw14 hB hz1 hk1 hS => ?_)
        obtain ⟨hP1, hD1⟩ := hB
        rw [ht] at hP1
        try dsimp only at hw14
        obtain ⟨hP, hD⟩ := va_join (wr := [(h0, .inr (11, [.ref tp, .ref rd, .ref se, .ref ba, .ref of, .ref pl, .ref sr, .ref sc, .int 0])), (ba, .inl (E.2 4, 6, .inr (.inr (.inr (.inr fb)))))]) (w1 := []) hP hD [2, 3] [0, 1] rfl rfl (by decide) (by decide) hk1 hFc hP1 hD1
        generalize H1 = H at hP hS ⊢
        have hP : va_P E.1 vwCl [(h0, .inr (11, [.ref tp, .ref rd, .ref se, .ref ba, .ref of, .ref pl, .ref sr, .ref sc, .int 0])), (ba, .inl (E.2 4, 6, .inr (.inr (.inr (.inr fb)))))] H := hP
        have hD : va_D A [(h0, .inr (11, [.ref tp, .ref rd, .ref se, .ref ba, .ref of, .ref pl, .ref sr, .ref sc, .int 0])), (ba, .inl (E.2 4, 6, .inr (.inr (.inr (.inr fb)))))] := hD
        obtain rfl : r13 = 0 := hw14
        have hP9 := hP.sub (ws' := []) [] rfl
        have hD9 := hD.sub (ws' := []) [] (by decide) rfl
        exact W.iret (v := 0) hx hb hr (fun t ht hW => ⟨⟨0, (), rfl, (by unfold boatS; first | (rw [b4, b8, decide_eq_false c9, decide_eq_true c11]; done) | (rw [b4, b8, decide_eq_false c9, decide_eq_true c11]; rfl)), by rw [ht]; exact hP9, hD9⟩, hS.F ht⟩) hS.2.2 dX11_boat_83
      refine lv_lookup (off := 45) (tgt := 84) hx hb dX11_boat_39 (by decide) (by have g0 : ¬ (0 : Int) = what.toInt := fun h => c9 (Int32.toInt_inj.mp (h.symm.trans (by decide))); have g1 : ¬ (1 : Int) = what.toInt := fun h => c11 (Int32.toInt_inj.mp (h.symm.trans (by decide))); simp [Op.lookupswitch.offset, g0, g1]) (by decide) ?_
      refine lv_bipush (v := (-9)) hx hb dX11_boat_84 (by decide) ?_
      have hP9 := hP.sub (ws' := []) [] rfl
      have hD9 := hD.sub (ws' := []) [] (by decide) rfl
      exact W.iret (v := (-9)) hx hb hr (fun t ht hW => ⟨⟨(-9), (), rfl, (by unfold boatS; first | (rw [b4, b8, decide_eq_false c9, decide_eq_false c11]; done) | (rw [b4, b8, decide_eq_false c9, decide_eq_false c11]; rfl)), by rw [ht]; exact hP9, hD9⟩, hS.F ht⟩) hS.2.2 dX11_boat_86
    · have b15 : inR what 10 13 = true := bn hw6 c7
      refine lv_aload_n hx hb dX11_boat_23 rfl (lv_at hl 0 rfl) ?_
      refine va_get (D := E.1) (ci := 11) (v := .ref ba) (C := RX11) (T := TX11) (N := 9) hx hb hts inX11 hown hK hP 0 rfl rfl 3 (by decide) fl34 (fun _ h9 => h9) rfl dX11_boat_24 ?_
      refine lv_iload_n hx hb dX11_boat_27 rfl (lv_at hl 1 rfl) ?_
      have hi16 : vp_in b 6 := inR_in (by decide) b4
      refine va_aldq hx hb hK hP 1 4 rfl rfl hi16 dX11_boat_28 ?_
      rw [show va_rf (fb b.toNatClampNeg) = .ref bo from by rw [hfb b4]; rfl]
      refine va_get (D := E.1) (ci := 0) (v := .ref pa) (C := RX0) (T := TX0) (N := 6) hx hb hts inX0 hown hK hP 2 rfl rfl 1 (by decide) fl105 (fun _ h9 => h9) rfl dX11_boat_29 ?_
      refine lv_iload_n hx hb dX11_boat_32 rfl (lv_at hl 2 rfl) ?_
      refine lv_bipush (v := 10) hx hb dX11_boat_33 (by decide) ?_
      refine lv_isub hx hb dX11_boat_35 ?_
      refine lv_topi (fun x17 ex17 => ?_)
      have hs18 : vp_in x17 4 := by rw [ex17]; exact (ixS b15 (a := 10) rfl (b := 13) (by decide) (by decide) (by decide) (by decide)).1
      refine va_iald hx hb hK hP 3 0 rfl rfl hs18 dX11_boat_36 ?_
      refine lv_topi (fun x19 ex19 => ?_)
      obtain rfl : x19 = 10000 := ex19.trans (hfp _ (Nat.not_le.mp fun q => hs18 (Or.inr q)))
      have hP9 := hP.sub (ws' := []) [] rfl
      have hD9 := hD.sub (ws' := []) [] (by decide) rfl
      exact W.iret (v := 10000) hx hb hr (fun t ht hW => ⟨⟨10000, (), rfl, (by unfold boatS; first | (rw [b4, b15]; done) | (rw [b4, b15]; rfl)), by rw [ht]; exact hP9, hD9⟩, hS.F ht⟩) hS.2.2 dX11_boat_37
  · have b20 : inR b 0 5 = false := bz hw2 c3
    refine lv_bipush (v := (-9)) hx hb dX11_boat_9 (by decide) ?_
    have hP9 := hP.sub (ws' := []) [] rfl
    have hD9 := hD.sub (ws' := []) [] (by decide) rfl
    exact W.iret (v := (-9)) hx hb hr (fun t ht hW => ⟨⟨(-9), (), rfl, (by unfold boatS; first | (rw [b20]; done) | (rw [b20]; rfl)), by rw [ht]; exact hP9, hD9⟩, hS.F ht⟩) hS.2.2 dX11_boat_11
set_option maxHeartbeats 4000000 in
set_option maxRecDepth 100000 in
theorem c_X2_add (l : Launch) (E : vE) (h0 : Nat) (g1 : Nat) (g2 : Nat) (g3 : Nat) (g4 : Nat) (g5 : Nat) (g6 : Nat) (g7 : Nat) (g8 : Nat) (fr : Int32) (to_ : Int32) (le : Int32) (fi : Int32) (la : Int32) (sz : Nat) : Met l yX2_add wsX2_add ({ frames := 1, cells := 0, slots := 0, locals := 21 }) (pcW E [.ref h0, .int fr, .int to_, .int le, .int fi, .int la] sz [(h0, .inr (2, [.ref g1, .ref g2, .ref g3, .ref g4, .ref g5, .int 0, .ref g6, .ref g7, .ref g8])), (g1, .inl (E.2 0, 7, .inl (fun _ => 0))), (g2, .inl (E.2 0, 7, .inl (fun _ => 0))), (g3, .inl (E.2 0, 7, .inl (fun _ => 0))), (g4, .inl (E.2 0, 7, .inl (fun _ => 0))), (g5, .inl (E.2 0, 7, .inl (fun _ => 0)))]) (va_Qi (fun (r : Int32) (_ : Unit) => r = 0) (fun (_ : Unit) (t : State) => wB E (va_A [(h0, .inr (2, [.ref g1, .ref g2, .ref g3, .ref g4, .ref g5, .int 0, .ref g6, .ref g7, .ref g8])), (g1, .inl (E.2 0, 7, .inl (fun _ => 0))), (g2, .inl (E.2 0, 7, .inl (fun _ => 0))), (g3, .inl (E.2 0, 7, .inl (fun _ => 0))), (g4, .inl (E.2 0, 7, .inl (fun _ => 0))), (g5, .inl (E.2 0, 7, .inl (fun _ => 0)))] sz) [] t) (va_A [(h0, .inr (2, [.ref g1, .ref g2, .ref g3, .ref g4, .ref g5, .int 0, .ref g6, .ref g7, .ref g8])), (g1, .inl (E.2 0, 7, .inl (fun _ => 0))), (g2, .inl (E.2 0, 7, .inl (fun _ => 0))), (g3, .inl (E.2 0, 7, .inl (fun _ => 0))), (g4, .inl (E.2 0, 7, .inl (fun _ => 0))), (g5, .inl (E.2 0, 7, .inl (fun _ => 0)))] sz)) 0 0 (va_A [(h0, .inr (2, [.ref g1, .ref g2, .ref g3, .ref g4, .ref g5, .int 0, .ref g6, .ref g7, .ref g8])), (g1, .inl (E.2 0, 7, .inl (fun _ => 0))), (g2, .inl (E.2 0, 7, .inl (fun _ => 0))), (g3, .inl (E.2 0, 7, .inl (fun _ => 0))), (g4, .inl (E.2 0, 7, .inl (fun _ => 0))), (g5, .inl (E.2 0, 7, .inl (fun _ => 0)))] sz) := by
  refine Met.ofW (cc := cX2_add) (maxL := 6) (ret := (some .int)) (by decide) rfl ?_
  intro p e s m args below meth c s₁ B hml hv
  obtain ⟨rfl, hsz, hP, hkn, hD0, hst⟩ := hv
  have hx := B.exec
  have hb := B.bytes
  have hr := B.returns
  have hts := atoms_spec (ws := wsX2_add) B.pre
  have hown : s.vm.findClass RX2 = some m.cls := findClass_of_methodNamed B.named
  have hlocks := B.notSynchronized
  subst hsz
  have hD := hD0.self (sz := s.heap.size)
  have hK := hkn.1
  have hAO := hkn.2.2
  generalize hAe : va_A [(h0, .inr (2, [.ref g1, .ref g2, .ref g3, .ref g4, .ref g5, .int 0, .ref g6, .ref g7, .ref g8])), (g1, .inl (E.2 0, 7, .inl (fun _ => 0))), (g2, .inl (E.2 0, 7, .inl (fun _ => 0))), (g3, .inl (E.2 0, 7, .inl (fun _ => 0))), (g4, .inl (E.2 0, 7, .inl (fun _ => 0))), (g5, .inl (E.2 0, 7, .inl (fun _ => 0)))] s.heap.size = A at hD hst ⊢
  have hA : ∀ q : Nat, s.heap.size ≤ q → A q := fun q h => by rw [← hAe]; exact Or.inr h
  have hS : va_S A s.heap s.heap [] := va_S.rf
  have hP : va_P E.1 vwCl [(h0, .inr (2, [.ref g1, .ref g2, .ref g3, .ref g4, .ref g5, .int 0, .ref g6, .ref g7, .ref g8])), (g1, .inl (E.2 0, 7, .inl (fun _ => 0))), (g2, .inl (E.2 0, 7, .inl (fun _ => 0))), (g3, .inl (E.2 0, 7, .inl (fun _ => 0))), (g4, .inl (E.2 0, 7, .inl (fun _ => 0))), (g5, .inl (E.2 0, 7, .inl (fun _ => 0)))] s.heap := hP
  have hl := lv_entry ([.ref h0, .int fr, .int to_, .int le, .int fi, .int la]) (n := 6) (Nat.le_of_ble_eq_true rfl)
  rw [lg_entry_eq]
  generalize (lg_sl ([.ref h0, .int fr, .int to_, .int le, .int fi, .int la]) ++ List.replicate (6 - (lg_sl ([.ref h0, .int fr, .int to_, .int le, .int fi, .int la])).length) Slot.unset).toArray = ls at hl ⊢
  have hl : lv_has ls 6 [(0, .ref h0), (1, .int fr), (2, .int to_), (3, .int le), (4, .int fi), (5, .int la)] := hl
  have fl9 := hts (.fieldLink RX2 9 "BoatsHome$Offers" "from" "[I") (by decide +kernel)
  have fl15 := hts (.fieldLink RX2 15 "BoatsHome$Offers" "to" "[I") (by decide +kernel)
  have fl18 := hts (.fieldLink RX2 18 "BoatsHome$Offers" "days" "[I") (by decide +kernel)
  have fl21 := hts (.fieldLink RX2 21 "BoatsHome$Offers" "first" "[I") (by decide +kernel)
  have fl24 := hts (.fieldLink RX2 24 "BoatsHome$Offers" "last" "[I") (by decide +kernel)
  have fl27 := hts (.fieldLink RX2 27 "BoatsHome$Offers" "size" "I") (by decide +kernel)
  have inX2 : ∀ w ∈ u_ws RX2 TX2 9, w ∈ wsX2_add := by decide +kernel
  refine lv_aload_n hx hb dX2_add_0 rfl (lv_at hl 0 rfl) ?_
  refine va_get (D := E.1) (ci := 2) (v := .int 0) (C := RX2) (T := TX2) (N := 9) hx hb hts inX2 hown hK hP 0 rfl rfl 5 (by decide) fl27 (fun _ h9 => h9) rfl dX2_add_1 ?_
  refine lv_bipush (v := 7) hx hb dX2_add_4 (by decide) ?_
  have hPc := hP.sub (ws' := []) [] rfl
  have hDc := hD.sub (ws' := []) [] (by decide) rfl
  have hFc := va_free (wc := []) hD hS hA [] rfl
  refine va_calli (va_runSN (As := [.int 0, .int 7]) (rest := []) ⟨hx, hb, hml, hown, hts⟩ (c_X11_below l E 0 7 6 s.heap.size (lt_le (by decide))) ⟨va_cnB 2 hts gX2_add_X11_below_n46 rfl rfl rfl (hkn.2.1 (.methodLinkNest RX2 46 yX11_below "BoatsHome") (by decide +kernel)) (hts (.initialized RX11) (by decide +kernel)) (by decide +kernel) ⟨Nat.le_of_ble_eq_true rfl, Nat.le_of_ble_eq_true rfl⟩, hts (.static yX11_below) (by decide +kernel), trivial⟩ ⟨pcW_blind, (pcW_pre hPc hkn hDc hst hS hFc)⟩ rfl rfl hl.1 rfl (lv_room (Nat.le_of_ble_eq_true rfl)) dX2_add_6 ⟨Nat.le_of_ble_eq_true rfl, Nat.le_of_ble_eq_true rfl⟩) hS (fun q _ h => hFc q h) hFc (fun r1 u t H1 locs ht hvm hw2 hB hz1 hk1 hS => ?_)
  obtain ⟨hP1, hD1⟩ := hB
  rw [ht] at hP1
  try dsimp only at hw2
  obtain ⟨hP, hD⟩ := va_join (wr := [(h0, .inr (2, [.ref g1, .ref g2, .ref g3, .ref g4, .ref g5, .int 0, .ref g6, .ref g7, .ref g8])), (g1, .inl (E.2 0, 7, .inl (fun _ => 0))), (g2, .inl (E.2 0, 7, .inl (fun _ => 0))), (g3, .inl (E.2 0, 7, .inl (fun _ => 0))), (g4, .inl (E.2 0, 7, .inl (fun _ => 0))), (g5, .inl (E.2 0, 7, .inl (fun _ => 0)))]) (w1 := []) hP hD [] [0, 1, 2, 3, 4, 5] rfl rfl (by decide) (by decide) hk1 hFc hP1 hD1
  generalize H1 = H at hP hS ⊢
  have hP : va_P E.1 vwCl [(h0, .inr (2, [.ref g1, .ref g2, .ref g3, .ref g4, .ref g5, .int 0, .ref g6, .ref g7, .ref g8])), (g1, .inl (E.2 0, 7, .inl (fun _ => 0))), (g2, .inl (E.2 0, 7, .inl (fun _ => 0))), (g3, .inl (E.2 0, 7, .inl (fun _ => 0))), (g4, .inl (E.2 0, 7, .inl (fun _ => 0))), (g5, .inl (E.2 0, 7, .inl (fun _ => 0)))] H := hP
  have hD : va_D A [(h0, .inr (2, [.ref g1, .ref g2, .ref g3, .ref g4, .ref g5, .int 0, .ref g6, .ref g7, .ref g8])), (g1, .inl (E.2 0, 7, .inl (fun _ => 0))), (g2, .inl (E.2 0, 7, .inl (fun _ => 0))), (g3, .inl (E.2 0, 7, .inl (fun _ => 0))), (g4, .inl (E.2 0, 7, .inl (fun _ => 0))), (g5, .inl (E.2 0, 7, .inl (fun _ => 0)))] := hD
  obtain rfl : r1 = 1 := hw2.trans (by decide +kernel)
  refine lv_if_ne (tgt := 15) hx hb dX2_add_9 (by decide) (fun _ => ?_) (fun c9 => absurd c9 (by decide))
  refine lv_aload_n hx hb dX2_add_15 rfl (lv_at hl 0 rfl) ?_
  refine va_get (D := E.1) (ci := 2) (v := .ref g1) (C := RX2) (T := TX2) (N := 9) hx hb hts inX2 hown hK hP 0 rfl rfl 0 (by decide) fl9 (fun _ h9 => h9) rfl dX2_add_16 ?_
  refine lv_aload_n hx hb dX2_add_19 rfl (lv_at hl 0 rfl) ?_
  refine va_get (D := E.1) (ci := 2) (v := .int 0) (C := RX2) (T := TX2) (N := 9) hx hb hts inX2 hown hK hP 0 rfl rfl 5 (by decide) fl27 (fun _ h9 => h9) rfl dX2_add_20 ?_
  refine lv_iload_n hx hb dX2_add_23 rfl (lv_at hl 1 rfl) ?_
  refine va_iast hx hb hK hP hD hS 1 0 rfl rfl (show vp_in 0 7 from by unfold vp_in; decide) dX2_add_24 (fun H locs hP hD hS => ?_)
  have hP : va_P E.1 vwCl [(h0, .inr (2, [.ref g1, .ref g2, .ref g3, .ref g4, .ref g5, .int 0, .ref g6, .ref g7, .ref g8])), (g1, .inl (E.2 0, 7, .inl (upd (fun _ => 0) (Int32.toNatClampNeg 0) fr))), (g2, .inl (E.2 0, 7, .inl (fun _ => 0))), (g3, .inl (E.2 0, 7, .inl (fun _ => 0))), (g4, .inl (E.2 0, 7, .inl (fun _ => 0))), (g5, .inl (E.2 0, 7, .inl (fun _ => 0)))] H := hP
  have hD : va_D A [(h0, .inr (2, [.ref g1, .ref g2, .ref g3, .ref g4, .ref g5, .int 0, .ref g6, .ref g7, .ref g8])), (g1, .inl (E.2 0, 7, .inl (upd (fun _ => 0) (Int32.toNatClampNeg 0) fr))), (g2, .inl (E.2 0, 7, .inl (fun _ => 0))), (g3, .inl (E.2 0, 7, .inl (fun _ => 0))), (g4, .inl (E.2 0, 7, .inl (fun _ => 0))), (g5, .inl (E.2 0, 7, .inl (fun _ => 0)))] := hD
  obtain ⟨f3, ef3⟩ : ∃ g : Nat → Int32, g = upd (fun _ => 0) (Int32.toNatClampNeg 0) fr := ⟨_, rfl⟩
  rw [← ef3] at hP hD
  refine lv_aload_n hx hb dX2_add_25 rfl (lv_at hl 0 rfl) ?_
  refine va_get (D := E.1) (ci := 2) (v := .ref g2) (C := RX2) (T := TX2) (N := 9) hx hb hts inX2 hown hK hP 0 rfl rfl 1 (by decide) fl15 (fun _ h9 => h9) rfl dX2_add_26 ?_
  refine lv_aload_n hx hb dX2_add_29 rfl (lv_at hl 0 rfl) ?_
  refine va_get (D := E.1) (ci := 2) (v := .int 0) (C := RX2) (T := TX2) (N := 9) hx hb hts inX2 hown hK hP 0 rfl rfl 5 (by decide) fl27 (fun _ h9 => h9) rfl dX2_add_30 ?_
  refine lv_iload_n hx hb dX2_add_33 rfl (lv_at hl 2 rfl) ?_
  refine va_iast hx hb hK hP hD hS 2 0 rfl rfl (show vp_in 0 7 from by unfold vp_in; decide) dX2_add_34 (fun H locs hP hD hS => ?_)
  have hP : va_P E.1 vwCl [(h0, .inr (2, [.ref g1, .ref g2, .ref g3, .ref g4, .ref g5, .int 0, .ref g6, .ref g7, .ref g8])), (g1, .inl (E.2 0, 7, .inl f3)), (g2, .inl (E.2 0, 7, .inl (upd (fun _ => 0) (Int32.toNatClampNeg 0) to_))), (g3, .inl (E.2 0, 7, .inl (fun _ => 0))), (g4, .inl (E.2 0, 7, .inl (fun _ => 0))), (g5, .inl (E.2 0, 7, .inl (fun _ => 0)))] H := hP
  have hD : va_D A [(h0, .inr (2, [.ref g1, .ref g2, .ref g3, .ref g4, .ref g5, .int 0, .ref g6, .ref g7, .ref g8])), (g1, .inl (E.2 0, 7, .inl f3)), (g2, .inl (E.2 0, 7, .inl (upd (fun _ => 0) (Int32.toNatClampNeg 0) to_))), (g3, .inl (E.2 0, 7, .inl (fun _ => 0))), (g4, .inl (E.2 0, 7, .inl (fun _ => 0))), (g5, .inl (E.2 0, 7, .inl (fun _ => 0)))] := hD
  obtain ⟨f4, ef4⟩ : ∃ g : Nat → Int32, g = upd (fun _ => 0) (Int32.toNatClampNeg 0) to_ := ⟨_, rfl⟩
  rw [← ef4] at hP hD
  refine lv_aload_n hx hb dX2_add_35 rfl (lv_at hl 0 rfl) ?_
  refine va_get (D := E.1) (ci := 2) (v := .ref g3) (C := RX2) (T := TX2) (N := 9) hx hb hts inX2 hown hK hP 0 rfl rfl 2 (by decide) fl18 (fun _ h9 => h9) rfl dX2_add_36 ?_
  refine lv_aload_n hx hb dX2_add_39 rfl (lv_at hl 0 rfl) ?_
  refine va_get (D := E.1) (ci := 2) (v := .int 0) (C := RX2) (T := TX2) (N := 9) hx hb hts inX2 hown hK hP 0 rfl rfl 5 (by decide) fl27 (fun _ h9 => h9) rfl dX2_add_40 ?_
  refine lv_iload_n hx hb dX2_add_43 rfl (lv_at hl 3 rfl) ?_
  refine va_iast hx hb hK hP hD hS 3 0 rfl rfl (show vp_in 0 7 from by unfold vp_in; decide) dX2_add_44 (fun H locs hP hD hS => ?_)
  have hP : va_P E.1 vwCl [(h0, .inr (2, [.ref g1, .ref g2, .ref g3, .ref g4, .ref g5, .int 0, .ref g6, .ref g7, .ref g8])), (g1, .inl (E.2 0, 7, .inl f3)), (g2, .inl (E.2 0, 7, .inl f4)), (g3, .inl (E.2 0, 7, .inl (upd (fun _ => 0) (Int32.toNatClampNeg 0) le))), (g4, .inl (E.2 0, 7, .inl (fun _ => 0))), (g5, .inl (E.2 0, 7, .inl (fun _ => 0)))] H := hP
  have hD : va_D A [(h0, .inr (2, [.ref g1, .ref g2, .ref g3, .ref g4, .ref g5, .int 0, .ref g6, .ref g7, .ref g8])), (g1, .inl (E.2 0, 7, .inl f3)), (g2, .inl (E.2 0, 7, .inl f4)), (g3, .inl (E.2 0, 7, .inl (upd (fun _ => 0) (Int32.toNatClampNeg 0) le))), (g4, .inl (E.2 0, 7, .inl (fun _ => 0))), (g5, .inl (E.2 0, 7, .inl (fun _ => 0)))] := hD
  obtain ⟨f5, ef5⟩ : ∃ g : Nat → Int32, g = upd (fun _ => 0) (Int32.toNatClampNeg 0) le := ⟨_, rfl⟩
  rw [← ef5] at hP hD
  refine lv_aload_n hx hb dX2_add_45 rfl (lv_at hl 0 rfl) ?_
  refine va_get (D := E.1) (ci := 2) (v := .ref g4) (C := RX2) (T := TX2) (N := 9) hx hb hts inX2 hown hK hP 0 rfl rfl 3 (by decide) fl21 (fun _ h9 => h9) rfl dX2_add_46 ?_
  refine lv_aload_n hx hb dX2_add_49 rfl (lv_at hl 0 rfl) ?_
  refine va_get (D := E.1) (ci := 2) (v := .int 0) (C := RX2) (T := TX2) (N := 9) hx hb hts inX2 hown hK hP 0 rfl rfl 5 (by decide) fl27 (fun _ h9 => h9) rfl dX2_add_50 ?_
  refine lv_iload hx hb dX2_add_53 (lv_at hl 4 rfl) ?_
  refine va_iast hx hb hK hP hD hS 4 0 rfl rfl (show vp_in 0 7 from by unfold vp_in; decide) dX2_add_55 (fun H locs hP hD hS => ?_)
  have hP : va_P E.1 vwCl [(h0, .inr (2, [.ref g1, .ref g2, .ref g3, .ref g4, .ref g5, .int 0, .ref g6, .ref g7, .ref g8])), (g1, .inl (E.2 0, 7, .inl f3)), (g2, .inl (E.2 0, 7, .inl f4)), (g3, .inl (E.2 0, 7, .inl f5)), (g4, .inl (E.2 0, 7, .inl (upd (fun _ => 0) (Int32.toNatClampNeg 0) fi))), (g5, .inl (E.2 0, 7, .inl (fun _ => 0)))] H := hP
  have hD : va_D A [(h0, .inr (2, [.ref g1, .ref g2, .ref g3, .ref g4, .ref g5, .int 0, .ref g6, .ref g7, .ref g8])), (g1, .inl (E.2 0, 7, .inl f3)), (g2, .inl (E.2 0, 7, .inl f4)), (g3, .inl (E.2 0, 7, .inl f5)), (g4, .inl (E.2 0, 7, .inl (upd (fun _ => 0) (Int32.toNatClampNeg 0) fi))), (g5, .inl (E.2 0, 7, .inl (fun _ => 0)))] := hD
  obtain ⟨f6, ef6⟩ : ∃ g : Nat → Int32, g = upd (fun _ => 0) (Int32.toNatClampNeg 0) fi := ⟨_, rfl⟩
  rw [← ef6] at hP hD
  refine lv_aload_n hx hb dX2_add_56 rfl (lv_at hl 0 rfl) ?_
  refine va_get (D := E.1) (ci := 2) (v := .ref g5) (C := RX2) (T := TX2) (N := 9) hx hb hts inX2 hown hK hP 0 rfl rfl 4 (by decide) fl24 (fun _ h9 => h9) rfl dX2_add_57 ?_
  refine lv_aload_n hx hb dX2_add_60 rfl (lv_at hl 0 rfl) ?_
  refine va_get (D := E.1) (ci := 2) (v := .int 0) (C := RX2) (T := TX2) (N := 9) hx hb hts inX2 hown hK hP 0 rfl rfl 5 (by decide) fl27 (fun _ h9 => h9) rfl dX2_add_61 ?_
  refine lv_iload hx hb dX2_add_64 (lv_at hl 5 rfl) ?_
  refine va_iast hx hb hK hP hD hS 5 0 rfl rfl (show vp_in 0 7 from by unfold vp_in; decide) dX2_add_66 (fun H locs hP hD hS => ?_)
  have hP : va_P E.1 vwCl [(h0, .inr (2, [.ref g1, .ref g2, .ref g3, .ref g4, .ref g5, .int 0, .ref g6, .ref g7, .ref g8])), (g1, .inl (E.2 0, 7, .inl f3)), (g2, .inl (E.2 0, 7, .inl f4)), (g3, .inl (E.2 0, 7, .inl f5)), (g4, .inl (E.2 0, 7, .inl f6)), (g5, .inl (E.2 0, 7, .inl (upd (fun _ => 0) (Int32.toNatClampNeg 0) la)))] H := hP
  have hD : va_D A [(h0, .inr (2, [.ref g1, .ref g2, .ref g3, .ref g4, .ref g5, .int 0, .ref g6, .ref g7, .ref g8])), (g1, .inl (E.2 0, 7, .inl f3)), (g2, .inl (E.2 0, 7, .inl f4)), (g3, .inl (E.2 0, 7, .inl f5)), (g4, .inl (E.2 0, 7, .inl f6)), (g5, .inl (E.2 0, 7, .inl (upd (fun _ => 0) (Int32.toNatClampNeg 0) la)))] := hD
  obtain ⟨f7, ef7⟩ : ∃ g : Nat → Int32, g = upd (fun _ => 0) (Int32.toNatClampNeg 0) la := ⟨_, rfl⟩
  rw [← ef7] at hP hD
  refine lv_aload_n hx hb dX2_add_67 rfl (lv_at hl 0 rfl) ?_
  refine lv_dup hx hb dX2_add_68 rfl ?_
  refine va_get (D := E.1) (ci := 2) (v := .int 0) (C := RX2) (T := TX2) (N := 9) hx hb hts inX2 hown hK hP 0 rfl rfl 5 (by decide) fl27 (fun _ h9 => h9) rfl dX2_add_69 ?_
  refine lv_iconst (v := 1) hx hb dX2_add_72 (by decide) ?_
  refine lv_iadd hx hb dX2_add_73 ?_
  refine lv_topi (fun x8 ex8 => ?_)
  obtain rfl : x8 = 1 := ex8.trans (by decide +kernel)
  refine va_put (D := E.1) (ci := 2) (v := .int 1) (ty := .int) (C := RX2) (T := TX2) (N := 9) hx hb hts inX2 tyX2 tyX2_ok nmX2 hown hK hP hD hS 0 rfl rfl 5 (by decide) fl27 (fun _ h9 => h9) rfl (by decide +kernel) rfl rfl (Nat.le_of_ble_eq_true rfl) dX2_add_74 (fun H locs hP hD hS => ?_)
  have hP : va_P E.1 vwCl [(h0, .inr (2, [.ref g1, .ref g2, .ref g3, .ref g4, .ref g5, .int 1, .ref g6, .ref g7, .ref g8])), (g1, .inl (E.2 0, 7, .inl f3)), (g2, .inl (E.2 0, 7, .inl f4)), (g3, .inl (E.2 0, 7, .inl f5)), (g4, .inl (E.2 0, 7, .inl f6)), (g5, .inl (E.2 0, 7, .inl f7))] H := hP
  have hD : va_D A [(h0, .inr (2, [.ref g1, .ref g2, .ref g3, .ref g4, .ref g5, .int 1, .ref g6, .ref g7, .ref g8])), (g1, .inl (E.2 0, 7, .inl f3)), (g2, .inl (E.2 0, 7, .inl f4)), (g3, .inl (E.2 0, 7, .inl f5)), (g4, .inl (E.2 0, 7, .inl f6)), (g5, .inl (E.2 0, 7, .inl f7))] := hD
  refine lv_aload_n hx hb dX2_add_77 rfl (lv_at hl 0 rfl) ?_
  refine va_get (D := E.1) (ci := 2) (v := .int 1) (C := RX2) (T := TX2) (N := 9) hx hb hts inX2 hown hK hP 0 rfl rfl 5 (by decide) fl27 (fun _ h9 => h9) rfl dX2_add_78 ?_
  refine lv_iconst (v := 1) hx hb dX2_add_81 (by decide) ?_
  refine lv_isub hx hb dX2_add_82 ?_
  refine lv_topi (fun x9 ex9 => ?_)
  obtain rfl : x9 = 0 := ex9.trans (by decide +kernel)
  have hP9 := hP.sub (ws' := []) [] rfl
  have hD9 := hD.sub (ws' := []) [] (by decide) rfl
  exact W.iret (v := 0) hx hb hr (fun t ht hW => ⟨⟨0, (), rfl, rfl, by rw [ht]; exact hP9, hD9⟩, hS.F ht⟩) hS.2.2 dX2_add_83
set_option maxHeartbeats 4000000 in
set_option maxRecDepth 100000 in
theorem c_X11_deliver (l : Launch) (E : vE) (h0 : Nat) (tp : Nat) (rd : Nat) (se : Nat) (ba : Nat) (of : Nat) (pl : Nat) (sr : Nat) (sc : Nat) (g1 : Nat) (g2 : Nat) (g3 : Nat) (g4 : Nat) (g5 : Nat) (g6 : Nat) (g7 : Nat) (g8 : Nat) (k1 : Nat) (k2 : Nat) (k3 : Nat) (k4 : Nat) (fr : Int32) (to_ : Int32) (le : Int32) (fi : Int32) (la : Int32) (sz : Nat) : Met l yX11_deliver wsX11_deliver ({ frames := 2, cells := 0, slots := 0, locals := 46 }) (pcW E [.ref h0, .int fr, .int to_, .int le, .int fi, .int la] sz [(h0, .inr (11, [.ref tp, .ref rd, .ref se, .ref ba, .ref of, .ref pl, .ref sr, .ref sc, .int 0])), (pl, .inr (5, [.ref of, .ref k1, .ref k2, .ref k3, .ref k4, .int 0, .int 0, .int 0])), (of, .inr (2, [.ref g1, .ref g2, .ref g3, .ref g4, .ref g5, .int 0, .ref g6, .ref g7, .ref g8])), (g1, .inl (E.2 0, 7, .inl (fun _ => 0))), (g2, .inl (E.2 0, 7, .inl (fun _ => 0))), (g3, .inl (E.2 0, 7, .inl (fun _ => 0))), (g4, .inl (E.2 0, 7, .inl (fun _ => 0))), (g5, .inl (E.2 0, 7, .inl (fun _ => 0)))]) (va_Qi (fun (r : Int32) (_ : Unit) => r = cond (inR fr 0 9 && inR to_ 0 9 && inR le 1 200 && inR fi 0 999 && inR la fi 999) 0 (-2)) (fun (_ : Unit) (t : State) => wB E (va_A [(h0, .inr (11, [.ref tp, .ref rd, .ref se, .ref ba, .ref of, .ref pl, .ref sr, .ref sc, .int 0])), (pl, .inr (5, [.ref of, .ref k1, .ref k2, .ref k3, .ref k4, .int 0, .int 0, .int 0])), (of, .inr (2, [.ref g1, .ref g2, .ref g3, .ref g4, .ref g5, .int 0, .ref g6, .ref g7, .ref g8])), (g1, .inl (E.2 0, 7, .inl (fun _ => 0))), (g2, .inl (E.2 0, 7, .inl (fun _ => 0))), (g3, .inl (E.2 0, 7, .inl (fun _ => 0))), (g4, .inl (E.2 0, 7, .inl (fun _ => 0))), (g5, .inl (E.2 0, 7, .inl (fun _ => 0)))] sz) [] t) (va_A [(h0, .inr (11, [.ref tp, .ref rd, .ref se, .ref ba, .ref of, .ref pl, .ref sr, .ref sc, .int 0])), (pl, .inr (5, [.ref of, .ref k1, .ref k2, .ref k3, .ref k4, .int 0, .int 0, .int 0])), (of, .inr (2, [.ref g1, .ref g2, .ref g3, .ref g4, .ref g5, .int 0, .ref g6, .ref g7, .ref g8])), (g1, .inl (E.2 0, 7, .inl (fun _ => 0))), (g2, .inl (E.2 0, 7, .inl (fun _ => 0))), (g3, .inl (E.2 0, 7, .inl (fun _ => 0))), (g4, .inl (E.2 0, 7, .inl (fun _ => 0))), (g5, .inl (E.2 0, 7, .inl (fun _ => 0)))] sz)) 0 0 (va_A [(h0, .inr (11, [.ref tp, .ref rd, .ref se, .ref ba, .ref of, .ref pl, .ref sr, .ref sc, .int 0])), (pl, .inr (5, [.ref of, .ref k1, .ref k2, .ref k3, .ref k4, .int 0, .int 0, .int 0])), (of, .inr (2, [.ref g1, .ref g2, .ref g3, .ref g4, .ref g5, .int 0, .ref g6, .ref g7, .ref g8])), (g1, .inl (E.2 0, 7, .inl (fun _ => 0))), (g2, .inl (E.2 0, 7, .inl (fun _ => 0))), (g3, .inl (E.2 0, 7, .inl (fun _ => 0))), (g4, .inl (E.2 0, 7, .inl (fun _ => 0))), (g5, .inl (E.2 0, 7, .inl (fun _ => 0)))] sz) := by
  refine Met.ofW (cc := cX11_deliver) (maxL := 6) (ret := (some .int)) (by decide) rfl ?_
  intro p e s m args below meth c s₁ B hml hv
  obtain ⟨rfl, hsz, hP, hkn, hD0, hst⟩ := hv
  have hx := B.exec
  have hb := B.bytes
  have hr := B.returns
  have hts := atoms_spec (ws := wsX11_deliver) B.pre
  have hown : s.vm.findClass RX11 = some m.cls := findClass_of_methodNamed B.named
  have hlocks := B.notSynchronized
  subst hsz
  have hD := hD0.self (sz := s.heap.size)
  have hK := hkn.1
  have hAO := hkn.2.2
  generalize hAe : va_A [(h0, .inr (11, [.ref tp, .ref rd, .ref se, .ref ba, .ref of, .ref pl, .ref sr, .ref sc, .int 0])), (pl, .inr (5, [.ref of, .ref k1, .ref k2, .ref k3, .ref k4, .int 0, .int 0, .int 0])), (of, .inr (2, [.ref g1, .ref g2, .ref g3, .ref g4, .ref g5, .int 0, .ref g6, .ref g7, .ref g8])), (g1, .inl (E.2 0, 7, .inl (fun _ => 0))), (g2, .inl (E.2 0, 7, .inl (fun _ => 0))), (g3, .inl (E.2 0, 7, .inl (fun _ => 0))), (g4, .inl (E.2 0, 7, .inl (fun _ => 0))), (g5, .inl (E.2 0, 7, .inl (fun _ => 0)))] s.heap.size = A at hD hst ⊢
  have hA : ∀ q : Nat, s.heap.size ≤ q → A q := fun q h => by rw [← hAe]; exact Or.inr h
  have hS : va_S A s.heap s.heap [] := va_S.rf
  have hP : va_P E.1 vwCl [(h0, .inr (11, [.ref tp, .ref rd, .ref se, .ref ba, .ref of, .ref pl, .ref sr, .ref sc, .int 0])), (pl, .inr (5, [.ref of, .ref k1, .ref k2, .ref k3, .ref k4, .int 0, .int 0, .int 0])), (of, .inr (2, [.ref g1, .ref g2, .ref g3, .ref g4, .ref g5, .int 0, .ref g6, .ref g7, .ref g8])), (g1, .inl (E.2 0, 7, .inl (fun _ => 0))), (g2, .inl (E.2 0, 7, .inl (fun _ => 0))), (g3, .inl (E.2 0, 7, .inl (fun _ => 0))), (g4, .inl (E.2 0, 7, .inl (fun _ => 0))), (g5, .inl (E.2 0, 7, .inl (fun _ => 0)))] s.heap := hP
  have hl := lv_entry ([.ref h0, .int fr, .int to_, .int le, .int fi, .int la]) (n := 6) (Nat.le_of_ble_eq_true rfl)
  rw [lg_entry_eq]
  generalize (lg_sl ([.ref h0, .int fr, .int to_, .int le, .int fi, .int la]) ++ List.replicate (6 - (lg_sl ([.ref h0, .int fr, .int to_, .int le, .int fi, .int la])).length) Slot.unset).toArray = ls at hl ⊢
  have hl : lv_has ls 6 [(0, .ref h0), (1, .int fr), (2, .int to_), (3, .int le), (4, .int fi), (5, .int la)] := hl
  have fl42 := hts (.fieldLink RX11 42 "BoatsHome" "offers" "LBoatsHome$Offers;") (by decide +kernel)
  have fl51 := hts (.fieldLink RX11 51 "BoatsHome" "latestPlan" "LBoatsHome$Plan;") (by decide +kernel)
  have fl197 := hts (.fieldLink RX11 197 "BoatsHome$Offers" "size" "I") (by decide +kernel)
  have fl198 := hts (.fieldLink RX11 198 "BoatsHome$Plan" "made" "Z") (by decide +kernel)
  have inX11 : ∀ w ∈ u_ws RX11 TX11 9, w ∈ wsX11_deliver := by decide +kernel
  have inX2 : ∀ w ∈ u_ws RX2 TX2 9, w ∈ wsX11_deliver := by decide +kernel
  have inX5 : ∀ w ∈ u_ws RX5 TX5 8, w ∈ wsX11_deliver := by decide +kernel
  refine lv_iload_n hx hb dX11_deliver_0 rfl (lv_at hl 1 rfl) ?_
  refine lv_bipush (v := 10) hx hb dX11_deliver_1 (by decide) ?_
  have hPc := hP.sub (ws' := []) [] rfl
  have hDc := hD.sub (ws' := []) [] (by decide) rfl
  have hFc := va_free (wc := []) hD hS hA [] rfl
  refine va_calli (va_runS (As := [.int fr, .int 10]) (rest := []) ⟨hx, hb, hml, hown, hts⟩ (c_X11_below l E fr 10 9 s.heap.size (lt_le (by decide))) (va_cwS 2 hts gX11_deliver_X11_below rfl rfl rfl (by decide +kernel) ⟨Nat.le_of_ble_eq_true rfl, Nat.le_of_ble_eq_true rfl⟩) ⟨pcW_blind, (pcW_pre hPc hkn hDc hst hS hFc)⟩ rfl rfl hl.1 rfl (lv_room (Nat.le_of_ble_eq_true rfl)) dX11_deliver_3 ⟨Nat.le_of_ble_eq_true rfl, Nat.le_of_ble_eq_true rfl⟩) hS (fun q _ h => hFc q h) hFc (fun r1 u t H1 locs ht hvm hw2 hB hz1 hk1 hS => ?_)
  obtain ⟨hP1, hD1⟩ := hB
  rw [ht] at hP1
  try dsimp only at hw2
  obtain ⟨hP, hD⟩ := va_join (wr := [(h0, .inr (11, [.ref tp, .ref rd, .ref se, .ref ba, .ref of, .ref pl, .ref sr, .ref sc, .int 0])), (pl, .inr (5, [.ref of, .ref k1, .ref k2, .ref k3, .ref k4, .int 0, .int 0, .int 0])), (of, .inr (2, [.ref g1, .ref g2, .ref g3, .ref g4, .ref g5, .int 0, .ref g6, .ref g7, .ref g8])), (g1, .inl (E.2 0, 7, .inl (fun _ => 0))), (g2, .inl (E.2 0, 7, .inl (fun _ => 0))), (g3, .inl (E.2 0, 7, .inl (fun _ => 0))), (g4, .inl (E.2 0, 7, .inl (fun _ => 0))), (g5, .inl (E.2 0, 7, .inl (fun _ => 0)))]) (w1 := []) hP hD [] [0, 1, 2, 3, 4, 5, 6, 7] rfl rfl (by decide) (by decide) hk1 hFc hP1 hD1
  generalize H1 = H at hP hS ⊢
  have hP : va_P E.1 vwCl [(h0, .inr (11, [.ref tp, .ref rd, .ref se, .ref ba, .ref of, .ref pl, .ref sr, .ref sc, .int 0])), (pl, .inr (5, [.ref of, .ref k1, .ref k2, .ref k3, .ref k4, .int 0, .int 0, .int 0])), (of, .inr (2, [.ref g1, .ref g2, .ref g3, .ref g4, .ref g5, .int 0, .ref g6, .ref g7, .ref g8])), (g1, .inl (E.2 0, 7, .inl (fun _ => 0))), (g2, .inl (E.2 0, 7, .inl (fun _ => 0))), (g3, .inl (E.2 0, 7, .inl (fun _ => 0))), (g4, .inl (E.2 0, 7, .inl (fun _ => 0))), (g5, .inl (E.2 0, 7, .inl (fun _ => 0)))] H := hP
  have hD : va_D A [(h0, .inr (11, [.ref tp, .ref rd, .ref se, .ref ba, .ref of, .ref pl, .ref sr, .ref sc, .int 0])), (pl, .inr (5, [.ref of, .ref k1, .ref k2, .ref k3, .ref k4, .int 0, .int 0, .int 0])), (of, .inr (2, [.ref g1, .ref g2, .ref g3, .ref g4, .ref g5, .int 0, .ref g6, .ref g7, .ref g8])), (g1, .inl (E.2 0, 7, .inl (fun _ => 0))), (g2, .inl (E.2 0, 7, .inl (fun _ => 0))), (g3, .inl (E.2 0, 7, .inl (fun _ => 0))), (g4, .inl (E.2 0, 7, .inl (fun _ => 0))), (g5, .inl (E.2 0, 7, .inl (fun _ => 0)))] := hD
  refine lv_if_eq (tgt := 54) hx hb dX11_deliver_6 (by decide) (fun c3 => ?_) (fun c3 => ?_)
  · have b4 : inR fr 0 9 = false := bz hw2 c3
    refine lv_bipush (v := (-2)) hx hb dX11_deliver_54 (by decide) ?_
    have hP9 := hP.sub (ws' := []) [] rfl
    have hD9 := hD.sub (ws' := []) [] (by decide) rfl
    exact W.iret (v := (-2)) hx hb hr (fun t ht hW => ⟨⟨(-2), (), rfl, (by first | (rw [b4]; done) | (rw [b4]; rfl)), by rw [ht]; exact hP9, hD9⟩, hS.F ht⟩) hS.2.2 dX11_deliver_56
  · have b5 : inR fr 0 9 = true := bn hw2 c3
    refine lv_iload_n hx hb dX11_deliver_9 rfl (lv_at hl 2 rfl) ?_
    refine lv_bipush (v := 10) hx hb dX11_deliver_10 (by decide) ?_
    have hPc := hP.sub (ws' := []) [] rfl
    have hDc := hD.sub (ws' := []) [] (by decide) rfl
    have hFc := va_free (wc := []) hD hS hA [] rfl
    refine va_calli (va_runS (As := [.int to_, .int 10]) (rest := []) ⟨hx, hb, hml, hown, hts⟩ (c_X11_below l E to_ 10 9 H.size (lt_le (by decide))) (va_cwS 2 hts gX11_deliver_X11_below rfl rfl rfl (by decide +kernel) ⟨Nat.le_of_ble_eq_true rfl, Nat.le_of_ble_eq_true rfl⟩) ⟨pcW_blind, (pcW_pre hPc hkn hDc hst hS hFc)⟩ rfl rfl hl.1 rfl (lv_room (Nat.le_of_ble_eq_true rfl)) dX11_deliver_12 ⟨Nat.le_of_ble_eq_true rfl, Nat.le_of_ble_eq_true rfl⟩) hS (fun q _ h => hFc q h) hFc (fun r6 u t H1 locs ht hvm hw7 hB hz1 hk1 hS => ?_)
    obtain ⟨hP1, hD1⟩ := hB
    rw [ht] at hP1
    try dsimp only at hw7
    obtain ⟨hP, hD⟩ := va_join (wr := [(h0, .inr (11, [.ref tp, .ref rd, .ref se, .ref ba, .ref of, .ref pl, .ref sr, .ref sc, .int 0])), (pl, .inr (5, [.ref of, .ref k1, .ref k2, .ref k3, .ref k4, .int 0, .int 0, .int 0])), (of, .inr (2, [.ref g1, .ref g2, .ref g3, .ref g4, .ref g5, .int 0, .ref g6, .ref g7, .ref g8])), (g1, .inl (E.2 0, 7, .inl (fun _ => 0))), (g2, .inl (E.2 0, 7, .inl (fun _ => 0))), (g3, .inl (E.2 0, 7, .inl (fun _ => 0))), (g4, .inl (E.2 0, 7, .inl (fun _ => 0))), (g5, .inl (E.2 0, 7, .inl (fun _ => 0)))]) (w1 := []) hP hD [] [0, 1, 2, 3, 4, 5, 6, 7] rfl rfl (by decide) (by decide) hk1 hFc hP1 hD1
    generalize H1 = H at hP hS ⊢
    have hP : va_P E.1 vwCl [(h0, .inr (11, [.ref tp, .ref rd, .ref se, .ref ba, .ref of, .ref pl, .ref sr, .ref sc, .int 0])), (pl, .inr (5, [.ref of, .ref k1, .ref k2, .ref k3, .ref k4, .int 0, .int 0, .int 0])), (of, .inr (2, [.ref g1, .ref g2, .ref g3, .ref g4, .ref g5, .int 0, .ref g6, .ref g7, .ref g8])), (g1, .inl (E.2 0, 7, .inl (fun _ => 0))), (g2, .inl (E.2 0, 7, .inl (fun _ => 0))), (g3, .inl (E.2 0, 7, .inl (fun _ => 0))), (g4, .inl (E.2 0, 7, .inl (fun _ => 0))), (g5, .inl (E.2 0, 7, .inl (fun _ => 0)))] H := hP
    have hD : va_D A [(h0, .inr (11, [.ref tp, .ref rd, .ref se, .ref ba, .ref of, .ref pl, .ref sr, .ref sc, .int 0])), (pl, .inr (5, [.ref of, .ref k1, .ref k2, .ref k3, .ref k4, .int 0, .int 0, .int 0])), (of, .inr (2, [.ref g1, .ref g2, .ref g3, .ref g4, .ref g5, .int 0, .ref g6, .ref g7, .ref g8])), (g1, .inl (E.2 0, 7, .inl (fun _ => 0))), (g2, .inl (E.2 0, 7, .inl (fun _ => 0))), (g3, .inl (E.2 0, 7, .inl (fun _ => 0))), (g4, .inl (E.2 0, 7, .inl (fun _ => 0))), (g5, .inl (E.2 0, 7, .inl (fun _ => 0)))] := hD
    refine lv_if_eq (tgt := 54) hx hb dX11_deliver_15 (by decide) (fun c8 => ?_) (fun c8 => ?_)
    · have b9 : inR to_ 0 9 = false := bz hw7 c8
      refine lv_bipush (v := (-2)) hx hb dX11_deliver_54 (by decide) ?_
      have hP9 := hP.sub (ws' := []) [] rfl
      have hD9 := hD.sub (ws' := []) [] (by decide) rfl
      exact W.iret (v := (-2)) hx hb hr (fun t ht hW => ⟨⟨(-2), (), rfl, (by first | (rw [b5, b9]; done) | (rw [b5, b9]; rfl)), by rw [ht]; exact hP9, hD9⟩, hS.F ht⟩) hS.2.2 dX11_deliver_56
    · have b10 : inR to_ 0 9 = true := bn hw7 c8
      refine lv_iload_n hx hb dX11_deliver_18 rfl (lv_at hl 3 rfl) ?_
      refine lv_iconst (v := 1) hx hb dX11_deliver_19 (by decide) ?_
      refine lv_sipush (v := 200) hx hb dX11_deliver_20 (by decide) ?_
      have hPc := hP.sub (ws' := []) [] rfl
      have hDc := hD.sub (ws' := []) [] (by decide) rfl
      have hFc := va_free (wc := []) hD hS hA [] rfl
      refine va_calli (va_runS (As := [.int le, .int 1, .int 200]) (rest := []) ⟨hx, hb, hml, hown, hts⟩ (c_X11_within l E le 1 200 H.size ) (va_cwS 3 hts gX11_deliver_X11_within rfl rfl rfl (by decide +kernel) ⟨Nat.le_of_ble_eq_true rfl, Nat.le_of_ble_eq_true rfl⟩) ⟨pcW_blind, (pcW_pre hPc hkn hDc hst hS hFc)⟩ rfl rfl hl.1 rfl (lv_room (Nat.le_of_ble_eq_true rfl)) dX11_deliver_23 ⟨Nat.le_of_ble_eq_true rfl, Nat.le_of_ble_eq_true rfl⟩) hS (fun q _ h => hFc q h) hFc (fun r11 u t H1 locs ht hvm hw12 hB hz1 hk1 hS => ?_)
      obtain ⟨hP1, hD1⟩ := hB
      rw [ht] at hP1
      try dsimp only at hw12
      obtain ⟨hP, hD⟩ := va_join (wr := [(h0, .inr (11, [.ref tp, .ref rd, .ref se, .ref ba, .ref of, .ref pl, .ref sr, .ref sc, .int 0])), (pl, .inr (5, [.ref of, .ref k1, .ref k2, .ref k3, .ref k4, .int 0, .int 0, .int 0])), (of, .inr (2, [.ref g1, .ref g2, .ref g3, .ref g4, .ref g5, .int 0, .ref g6, .ref g7, .ref g8])), (g1, .inl (E.2 0, 7, .inl (fun _ => 0))), (g2, .inl (E.2 0, 7, .inl (fun _ => 0))), (g3, .inl (E.2 0, 7, .inl (fun _ => 0))), (g4, .inl (E.2 0, 7, .inl (fun _ => 0))), (g5, .inl (E.2 0, 7, .inl (fun _ => 0)))]) (w1 := []) hP hD [] [0, 1, 2, 3, 4, 5, 6, 7] rfl rfl (by decide) (by decide) hk1 hFc hP1 hD1
      generalize H1 = H at hP hS ⊢
      have hP : va_P E.1 vwCl [(h0, .inr (11, [.ref tp, .ref rd, .ref se, .ref ba, .ref of, .ref pl, .ref sr, .ref sc, .int 0])), (pl, .inr (5, [.ref of, .ref k1, .ref k2, .ref k3, .ref k4, .int 0, .int 0, .int 0])), (of, .inr (2, [.ref g1, .ref g2, .ref g3, .ref g4, .ref g5, .int 0, .ref g6, .ref g7, .ref g8])), (g1, .inl (E.2 0, 7, .inl (fun _ => 0))), (g2, .inl (E.2 0, 7, .inl (fun _ => 0))), (g3, .inl (E.2 0, 7, .inl (fun _ => 0))), (g4, .inl (E.2 0, 7, .inl (fun _ => 0))), (g5, .inl (E.2 0, 7, .inl (fun _ => 0)))] H := hP
      have hD : va_D A [(h0, .inr (11, [.ref tp, .ref rd, .ref se, .ref ba, .ref of, .ref pl, .ref sr, .ref sc, .int 0])), (pl, .inr (5, [.ref of, .ref k1, .ref k2, .ref k3, .ref k4, .int 0, .int 0, .int 0])), (of, .inr (2, [.ref g1, .ref g2, .ref g3, .ref g4, .ref g5, .int 0, .ref g6, .ref g7, .ref g8])), (g1, .inl (E.2 0, 7, .inl (fun _ => 0))), (g2, .inl (E.2 0, 7, .inl (fun _ => 0))), (g3, .inl (E.2 0, 7, .inl (fun _ => 0))), (g4, .inl (E.2 0, 7, .inl (fun _ => 0))), (g5, .inl (E.2 0, 7, .inl (fun _ => 0)))] := hD
      refine lv_if_eq (tgt := 54) hx hb dX11_deliver_26 (by decide) (fun c13 => ?_) (fun c13 => ?_)
      · have b14 : inR le 1 200 = false := bz hw12 c13
        refine lv_bipush (v := (-2)) hx hb dX11_deliver_54 (by decide) ?_
        have hP9 := hP.sub (ws' := []) [] rfl
        have hD9 := hD.sub (ws' := []) [] (by decide) rfl
        exact W.iret (v := (-2)) hx hb hr (fun t ht hW => ⟨⟨(-2), (), rfl, (by first | (rw [b5, b10, b14]; done) | (rw [b5, b10, b14]; rfl)), by rw [ht]; exact hP9, hD9⟩, hS.F ht⟩) hS.2.2 dX11_deliver_56
      · have b15 : inR le 1 200 = true := bn hw12 c13
        refine lv_iload hx hb dX11_deliver_29 (lv_at hl 4 rfl) ?_
        refine lv_iconst (v := 0) hx hb dX11_deliver_31 (by decide) ?_
        refine lv_sipush (v := 999) hx hb dX11_deliver_32 (by decide) ?_
        have hPc := hP.sub (ws' := []) [] rfl
        have hDc := hD.sub (ws' := []) [] (by decide) rfl
        have hFc := va_free (wc := []) hD hS hA [] rfl
        refine va_calli (va_runS (As := [.int fi, .int 0, .int 999]) (rest := []) ⟨hx, hb, hml, hown, hts⟩ (c_X11_within l E fi 0 999 H.size ) (va_cwS 3 hts gX11_deliver_X11_within rfl rfl rfl (by decide +kernel) ⟨Nat.le_of_ble_eq_true rfl, Nat.le_of_ble_eq_true rfl⟩) ⟨pcW_blind, (pcW_pre hPc hkn hDc hst hS hFc)⟩ rfl rfl hl.1 rfl (lv_room (Nat.le_of_ble_eq_true rfl)) dX11_deliver_35 ⟨Nat.le_of_ble_eq_true rfl, Nat.le_of_ble_eq_true rfl⟩) hS (fun q _ h => hFc q h) hFc (fun r16 u t H1 locs ht hvm hw17 hB hz1 hk1 hS => ?_)
        obtain ⟨hP1, hD1⟩ := hB
        rw [ht] at hP1
        try dsimp only at hw17
        obtain ⟨hP, hD⟩ := va_join (wr := [(h0, .inr (11, [.ref tp, .ref rd, .ref se, .ref ba, .ref of, .ref pl, .ref sr, .ref sc, .int 0])), (pl, .inr (5, [.ref of, .ref k1, .ref k2, .ref k3, .ref k4, .int 0, .int 0, .int 0])), (of, .inr (2, [.ref g1, .ref g2, .ref g3, .ref g4, .ref g5, .int 0, .ref g6, .ref g7, .ref g8])), (g1, .inl (E.2 0, 7, .inl (fun _ => 0))), (g2, .inl (E.2 0, 7, .inl (fun _ => 0))), (g3, .inl (E.2 0, 7, .inl (fun _ => 0))), (g4, .inl (E.2 0, 7, .inl (fun _ => 0))), (g5, .inl (E.2 0, 7, .inl (fun _ => 0)))]) (w1 := []) hP hD [] [0, 1, 2, 3, 4, 5, 6, 7] rfl rfl (by decide) (by decide) hk1 hFc hP1 hD1
        generalize H1 = H at hP hS ⊢
        have hP : va_P E.1 vwCl [(h0, .inr (11, [.ref tp, .ref rd, .ref se, .ref ba, .ref of, .ref pl, .ref sr, .ref sc, .int 0])), (pl, .inr (5, [.ref of, .ref k1, .ref k2, .ref k3, .ref k4, .int 0, .int 0, .int 0])), (of, .inr (2, [.ref g1, .ref g2, .ref g3, .ref g4, .ref g5, .int 0, .ref g6, .ref g7, .ref g8])), (g1, .inl (E.2 0, 7, .inl (fun _ => 0))), (g2, .inl (E.2 0, 7, .inl (fun _ => 0))), (g3, .inl (E.2 0, 7, .inl (fun _ => 0))), (g4, .inl (E.2 0, 7, .inl (fun _ => 0))), (g5, .inl (E.2 0, 7, .inl (fun _ => 0)))] H := hP
        have hD : va_D A [(h0, .inr (11, [.ref tp, .ref rd, .ref se, .ref ba, .ref of, .ref pl, .ref sr, .ref sc, .int 0])), (pl, .inr (5, [.ref of, .ref k1, .ref k2, .ref k3, .ref k4, .int 0, .int 0, .int 0])), (of, .inr (2, [.ref g1, .ref g2, .ref g3, .ref g4, .ref g5, .int 0, .ref g6, .ref g7, .ref g8])), (g1, .inl (E.2 0, 7, .inl (fun _ => 0))), (g2, .inl (E.2 0, 7, .inl (fun _ => 0))), (g3, .inl (E.2 0, 7, .inl (fun _ => 0))), (g4, .inl (E.2 0, 7, .inl (fun _ => 0))), (g5, .inl (E.2 0, 7, .inl (fun _ => 0)))] := hD
        refine lv_if_eq (tgt := 54) hx hb dX11_deliver_38 (by decide) (fun c18 => ?_) (fun c18 => ?_)
        · have b19 : inR fi 0 999 = false := bz hw17 c18
          refine lv_bipush (v := (-2)) hx hb dX11_deliver_54 (by decide) ?_
          have hP9 := hP.sub (ws' := []) [] rfl
          have hD9 := hD.sub (ws' := []) [] (by decide) rfl
          exact W.iret (v := (-2)) hx hb hr (fun t ht hW => ⟨⟨(-2), (), rfl, (by first | (rw [b5, b10, b15, b19]; done) | (rw [b5, b10, b15, b19]; rfl)), by rw [ht]; exact hP9, hD9⟩, hS.F ht⟩) hS.2.2 dX11_deliver_56
        · have b20 : inR fi 0 999 = true := bn hw17 c18
          refine lv_iload hx hb dX11_deliver_41 (lv_at hl 5 rfl) ?_
          refine lv_iload hx hb dX11_deliver_43 (lv_at hl 4 rfl) ?_
          refine lv_sipush (v := 999) hx hb dX11_deliver_45 (by decide) ?_
          have hPc := hP.sub (ws' := []) [] rfl
          have hDc := hD.sub (ws' := []) [] (by decide) rfl
          have hFc := va_free (wc := []) hD hS hA [] rfl
          refine va_calli (va_runS (As := [.int la, .int fi, .int 999]) (rest := []) ⟨hx, hb, hml, hown, hts⟩ (c_X11_within l E la fi 999 H.size ) (va_cwS 3 hts gX11_deliver_X11_within rfl rfl rfl (by decide +kernel) ⟨Nat.le_of_ble_eq_true rfl, Nat.le_of_ble_eq_true rfl⟩) ⟨pcW_blind, (pcW_pre hPc hkn hDc hst hS hFc)⟩ rfl rfl hl.1 rfl (lv_room (Nat.le_of_ble_eq_true rfl)) dX11_deliver_48 ⟨Nat.le_of_ble_eq_true rfl, Nat.le_of_ble_eq_true rfl⟩) hS (fun q _ h => hFc q h) hFc (fun r21 u t H1 locs ht hvm hw22 hB hz1 hk1 hS => ?_)
          obtain ⟨hP1, hD1⟩ := hB
          rw [ht] at hP1
          try dsimp only at hw22
          obtain ⟨hP, hD⟩ := va_join (wr := [(h0, .inr (11, [.ref tp, .ref rd, .ref se, .ref ba, .ref of, .ref pl, .ref sr, .ref sc, .int 0])), (pl, .inr (5, [.ref of, .ref k1, .ref k2, .ref k3, .ref k4, .int 0, .int 0, .int 0])), (of, .inr (2, [.ref g1, .ref g2, .ref g3, .ref g4, .ref g5, .int 0, .ref g6, .ref g7, .ref g8])), (g1, .inl (E.2 0, 7, .inl (fun _ => 0))), (g2, .inl (E.2 0, 7, .inl (fun _ => 0))), (g3, .inl (E.2 0, 7, .inl (fun _ => 0))), (g4, .inl (E.2 0, 7, .inl (fun _ => 0))), (g5, .inl (E.2 0, 7, .inl (fun _ => 0)))]) (w1 := []) hP hD [] [0, 1, 2, 3, 4, 5, 6, 7] rfl rfl (by decide) (by decide) hk1 hFc hP1 hD1
          generalize H1 = H at hP hS ⊢
          have hP : va_P E.1 vwCl [(h0, .inr (11, [.ref tp, .ref rd, .ref se, .ref ba, .ref of, .ref pl, .ref sr, .ref sc, .int 0])), (pl, .inr (5, [.ref of, .ref k1, .ref k2, .ref k3, .ref k4, .int 0, .int 0, .int 0])), (of, .inr (2, [.ref g1, .ref g2, .ref g3, .ref g4, .ref g5, .int 0, .ref g6, .ref g7, .ref g8])), (g1, .inl (E.2 0, 7, .inl (fun _ => 0))), (g2, .inl (E.2 0, 7, .inl (fun _ => 0))), (g3, .inl (E.2 0, 7, .inl (fun _ => 0))), (g4, .inl (E.2 0, 7, .inl (fun _ => 0))), (g5, .inl (E.2 0, 7, .inl (fun _ => 0)))] H := hP
          have hD : va_D A [(h0, .inr (11, [.ref tp, .ref rd, .ref se, .ref ba, .ref of, .ref pl, .ref sr, .ref sc, .int 0])), (pl, .inr (5, [.ref of, .ref k1, .ref k2, .ref k3, .ref k4, .int 0, .int 0, .int 0])), (of, .inr (2, [.ref g1, .ref g2, .ref g3, .ref g4, .ref g5, .int 0, .ref g6, .ref g7, .ref g8])), (g1, .inl (E.2 0, 7, .inl (fun _ => 0))), (g2, .inl (E.2 0, 7, .inl (fun _ => 0))), (g3, .inl (E.2 0, 7, .inl (fun _ => 0))), (g4, .inl (E.2 0, 7, .inl (fun _ => 0))), (g5, .inl (E.2 0, 7, .inl (fun _ => 0)))] := hD
          refine lv_if_ne (tgt := 57) hx hb dX11_deliver_51 (by decide) (fun c23 => ?_) (fun c23 => ?_)
          · have b24 : inR la fi 999 = true := bn hw22 c23
            refine lv_aload_n hx hb dX11_deliver_57 rfl (lv_at hl 0 rfl) ?_
            refine va_get (D := E.1) (ci := 11) (v := .ref of) (C := RX11) (T := TX11) (N := 9) hx hb hts inX11 hown hK hP 0 rfl rfl 4 (by decide) fl42 (fun _ h9 => h9) rfl dX11_deliver_58 ?_
            refine va_get (D := E.1) (ci := 2) (v := .int 0) (C := RX2) (T := TX2) (N := 9) hx hb hts inX2 hown hK hP 2 rfl rfl 5 (by decide) fl197 (fun _ h9 => h9) rfl dX11_deliver_61 ?_
            refine lv_bipush (v := 7) hx hb dX11_deliver_64 (by decide) ?_
            refine lv_icmp_lt (tgt := 72) hx hb dX11_deliver_66 (by decide) (fun _ => ?_) (fun c9 => absurd c9 (by decide))
            refine lv_aload_n hx hb dX11_deliver_72 rfl (lv_at hl 0 rfl) ?_
            refine va_get (D := E.1) (ci := 11) (v := .ref pl) (C := RX11) (T := TX11) (N := 9) hx hb hts inX11 hown hK hP 0 rfl rfl 5 (by decide) fl51 (fun _ h9 => h9) rfl dX11_deliver_73 ?_
            refine lv_iconst (v := 0) hx hb dX11_deliver_76 (by decide) ?_
            refine va_put (D := E.1) (ci := 5) (v := .int 0) (ty := .boolean) (C := RX5) (T := TX5) (N := 8) hx hb hts inX5 tyX5 tyX5_ok nmX5 hown hK hP hD hS 1 rfl rfl 5 (by decide) fl198 (fun _ h9 => h9) rfl (by decide +kernel) (by first | rfl | decide) (by first | rfl | decide) (Nat.le_of_ble_eq_true rfl) dX11_deliver_77 (fun H locs hP hD hS => ?_)
            have hP : va_P E.1 vwCl [(h0, .inr (11, [.ref tp, .ref rd, .ref se, .ref ba, .ref of, .ref pl, .ref sr, .ref sc, .int 0])), (pl, .inr (5, [.ref of, .ref k1, .ref k2, .ref k3, .ref k4, .int 0, .int 0, .int 0])), (of, .inr (2, [.ref g1, .ref g2, .ref g3, .ref g4, .ref g5, .int 0, .ref g6, .ref g7, .ref g8])), (g1, .inl (E.2 0, 7, .inl (fun _ => 0))), (g2, .inl (E.2 0, 7, .inl (fun _ => 0))), (g3, .inl (E.2 0, 7, .inl (fun _ => 0))), (g4, .inl (E.2 0, 7, .inl (fun _ => 0))), (g5, .inl (E.2 0, 7, .inl (fun _ => 0)))] H := hP
            have hD : va_D A [(h0, .inr (11, [.ref tp, .ref rd, .ref se, .ref ba, .ref of, .ref pl, .ref sr, .ref sc, .int 0])), (pl, .inr (5, [.ref of, .ref k1, .ref k2, .ref k3, .ref k4, .int 0, .int 0, .int 0])), (of, .inr (2, [.ref g1, .ref g2, .ref g3, .ref g4, .ref g5, .int 0, .ref g6, .ref g7, .ref g8])), (g1, .inl (E.2 0, 7, .inl (fun _ => 0))), (g2, .inl (E.2 0, 7, .inl (fun _ => 0))), (g3, .inl (E.2 0, 7, .inl (fun _ => 0))), (g4, .inl (E.2 0, 7, .inl (fun _ => 0))), (g5, .inl (E.2 0, 7, .inl (fun _ => 0)))] := hD
            refine lv_aload_n hx hb dX11_deliver_80 rfl (lv_at hl 0 rfl) ?_
            refine va_get (D := E.1) (ci := 11) (v := .ref of) (C := RX11) (T := TX11) (N := 9) hx hb hts inX11 hown hK hP 0 rfl rfl 4 (by decide) fl42 (fun _ h9 => h9) rfl dX11_deliver_81 ?_
            refine lv_iload_n hx hb dX11_deliver_84 rfl (lv_at hl 1 rfl) ?_
            refine lv_iload_n hx hb dX11_deliver_85 rfl (lv_at hl 2 rfl) ?_
            refine lv_iload_n hx hb dX11_deliver_86 rfl (lv_at hl 3 rfl) ?_
            refine lv_iload hx hb dX11_deliver_87 (lv_at hl 4 rfl) ?_
            refine lv_iload hx hb dX11_deliver_89 (lv_at hl 5 rfl) ?_
            have hPc := hP.sub (ws' := [(of, .inr (2, [.ref g1, .ref g2, .ref g3, .ref g4, .ref g5, .int 0, .ref g6, .ref g7, .ref g8])), (g1, .inl (E.2 0, 7, .inl (fun _ => 0))), (g2, .inl (E.2 0, 7, .inl (fun _ => 0))), (g3, .inl (E.2 0, 7, .inl (fun _ => 0))), (g4, .inl (E.2 0, 7, .inl (fun _ => 0))), (g5, .inl (E.2 0, 7, .inl (fun _ => 0)))]) [2, 3, 4, 5, 6, 7] rfl
            have hDc := hD.sub (ws' := [(of, .inr (2, [.ref g1, .ref g2, .ref g3, .ref g4, .ref g5, .int 0, .ref g6, .ref g7, .ref g8])), (g1, .inl (E.2 0, 7, .inl (fun _ => 0))), (g2, .inl (E.2 0, 7, .inl (fun _ => 0))), (g3, .inl (E.2 0, 7, .inl (fun _ => 0))), (g4, .inl (E.2 0, 7, .inl (fun _ => 0))), (g5, .inl (E.2 0, 7, .inl (fun _ => 0)))]) [2, 3, 4, 5, 6, 7] (by decide) rfl
            have hFc := va_free (wc := [(of, .inr (2, [.ref g1, .ref g2, .ref g3, .ref g4, .ref g5, .int 0, .ref g6, .ref g7, .ref g8])), (g1, .inl (E.2 0, 7, .inl (fun _ => 0))), (g2, .inl (E.2 0, 7, .inl (fun _ => 0))), (g3, .inl (E.2 0, 7, .inl (fun _ => 0))), (g4, .inl (E.2 0, 7, .inl (fun _ => 0))), (g5, .inl (E.2 0, 7, .inl (fun _ => 0)))]) hD hS hA [2, 3, 4, 5, 6, 7] rfl
            refine va_calli (va_runV (As := [.int fr, .int to_, .int le, .int fi, .int la]) (rest := []) ⟨hx, hb, hml, hown, hts⟩ (c_X2_add l E of g1 g2 g3 g4 g5 g6 g7 g8 fr to_ le fi la H.size ) (cwV 5 hts gX11_deliver_X2_add rfl rfl rfl (by decide +kernel) ⟨Nat.le_of_ble_eq_true rfl, Nat.le_of_ble_eq_true rfl⟩) ⟨pcW_blind, va_recv hK hPc (ci := 2) (q0 := 0) rfl rfl, (pcW_pre hPc hkn hDc hst hS hFc)⟩ rfl rfl hl.1 rfl (lv_room (Nat.le_of_ble_eq_true rfl)) dX11_deliver_91 ⟨Nat.le_of_ble_eq_true rfl, Nat.le_of_ble_eq_true rfl⟩) hS (fun q _ h => hFc q h) hFc (fun r25 u t H1 locs ht hvm hw26 hB hz1 hk1 hS => ?_)
            obtain ⟨hP1, hD1⟩ := hB
            rw [ht] at hP1
            try dsimp only at hw26
            obtain ⟨hP, hD⟩ := va_join (wr := [(h0, .inr (11, [.ref tp, .ref rd, .ref se, .ref ba, .ref of, .ref pl, .ref sr, .ref sc, .int 0])), (pl, .inr (5, [.ref of, .ref k1, .ref k2, .ref k3, .ref k4, .int 0, .int 0, .int 0]))]) (w1 := []) hP hD [2, 3, 4, 5, 6, 7] [0, 1] rfl rfl (by decide) (by decide) hk1 hFc hP1 hD1
            generalize H1 = H at hP hS ⊢
            have hP : va_P E.1 vwCl [(h0, .inr (11, [.ref tp, .ref rd, .ref se, .ref ba, .ref of, .ref pl, .ref sr, .ref sc, .int 0])), (pl, .inr (5, [.ref of, .ref k1, .ref k2, .ref k3, .ref k4, .int 0, .int 0, .int 0]))] H := hP
            have hD : va_D A [(h0, .inr (11, [.ref tp, .ref rd, .ref se, .ref ba, .ref of, .ref pl, .ref sr, .ref sc, .int 0])), (pl, .inr (5, [.ref of, .ref k1, .ref k2, .ref k3, .ref k4, .int 0, .int 0, .int 0]))] := hD
            obtain rfl : r25 = 0 := hw26
            have hP9 := hP.sub (ws' := []) [] rfl
            have hD9 := hD.sub (ws' := []) [] (by decide) rfl
            exact W.iret (v := 0) hx hb hr (fun t ht hW => ⟨⟨0, (), rfl, (by first | (rw [b5, b10, b15, b20, b24]; done) | (rw [b5, b10, b15, b20, b24]; rfl)), by rw [ht]; exact hP9, hD9⟩, hS.F ht⟩) hS.2.2 dX11_deliver_94
          · have b27 : inR la fi 999 = false := bz hw22 c23
            refine lv_bipush (v := (-2)) hx hb dX11_deliver_54 (by decide) ?_
            have hP9 := hP.sub (ws' := []) [] rfl
            have hD9 := hD.sub (ws' := []) [] (by decide) rfl
            exact W.iret (v := (-2)) hx hb hr (fun t ht hW => ⟨⟨(-2), (), rfl, (by first | (rw [b5, b10, b15, b20, b27]; done) | (rw [b5, b10, b15, b20, b27]; rfl)), by rw [ht]; exact hP9, hD9⟩, hS.F ht⟩) hS.2.2 dX11_deliver_56
set_option maxHeartbeats 4000000 in
set_option maxRecDepth 100000 in
theorem c_X11_crew (l : Launch) (E : vE) (h0 : Nat) (tp : Nat) (rd : Nat) (se : Nat) (ba : Nat) (of : Nat) (pl : Nat) (sr : Nat) (sc : Nat) (g1 : Nat) (g2 : Nat) (g3 : Nat) (g4 : Nat) (g5 : Nat) (g6 : Nat) (g7 : Nat) (g8 : Nat) (k1 : Nat) (k2 : Nat) (k3 : Nat) (k4 : Nat) (cr : Int32) (port : Int32) (day : Int32) (fc : Nat → Int32) (sz : Nat) : Met l yX11_crew wsX11_crew ({ frames := 2, cells := 0, slots := 0, locals := 40 }) (pcW E [.ref h0, .int cr, .int port, .int day] sz [(h0, .inr (11, [.ref tp, .ref rd, .ref se, .ref ba, .ref of, .ref pl, .ref sr, .ref sc, .int 0])), (pl, .inr (5, [.ref of, .ref k1, .ref k2, .ref k3, .ref k4, .int 0, .int 0, .int 0])), (of, .inr (2, [.ref g1, .ref g2, .ref g3, .ref g4, .ref g5, .int 0, .ref g6, .ref g7, .ref g8])), (g6, .inl (E.2 0, 4, .inl fc)), (g7, .inl (E.2 0, 4, .inl (fun _ => 0)))]) (va_Qi (fun (r : Int32) (_ : Unit) => r = cond (inR cr 0 3 && inR port 0 9 && inR day 0 999) 1 (-2)) (fun (_ : Unit) (t : State) => wB E (va_A [(h0, .inr (11, [.ref tp, .ref rd, .ref se, .ref ba, .ref of, .ref pl, .ref sr, .ref sc, .int 0])), (pl, .inr (5, [.ref of, .ref k1, .ref k2, .ref k3, .ref k4, .int 0, .int 0, .int 0])), (of, .inr (2, [.ref g1, .ref g2, .ref g3, .ref g4, .ref g5, .int 0, .ref g6, .ref g7, .ref g8])), (g6, .inl (E.2 0, 4, .inl fc)), (g7, .inl (E.2 0, 4, .inl (fun _ => 0)))] sz) [] t) (va_A [(h0, .inr (11, [.ref tp, .ref rd, .ref se, .ref ba, .ref of, .ref pl, .ref sr, .ref sc, .int 0])), (pl, .inr (5, [.ref of, .ref k1, .ref k2, .ref k3, .ref k4, .int 0, .int 0, .int 0])), (of, .inr (2, [.ref g1, .ref g2, .ref g3, .ref g4, .ref g5, .int 0, .ref g6, .ref g7, .ref g8])), (g6, .inl (E.2 0, 4, .inl fc)), (g7, .inl (E.2 0, 4, .inl (fun _ => 0)))] sz)) 0 0 (va_A [(h0, .inr (11, [.ref tp, .ref rd, .ref se, .ref ba, .ref of, .ref pl, .ref sr, .ref sc, .int 0])), (pl, .inr (5, [.ref of, .ref k1, .ref k2, .ref k3, .ref k4, .int 0, .int 0, .int 0])), (of, .inr (2, [.ref g1, .ref g2, .ref g3, .ref g4, .ref g5, .int 0, .ref g6, .ref g7, .ref g8])), (g6, .inl (E.2 0, 4, .inl fc)), (g7, .inl (E.2 0, 4, .inl (fun _ => 0)))] sz) := by
  refine Met.ofW (cc := cX11_crew) (maxL := 4) (ret := (some .int)) (by decide) rfl ?_
  intro p e s m args below meth c s₁ B hml hv
  obtain ⟨rfl, hsz, hP, hkn, hD0, hst⟩ := hv
  have hx := B.exec
  have hb := B.bytes
  have hr := B.returns
  have hts := atoms_spec (ws := wsX11_crew) B.pre
  have hown : s.vm.findClass RX11 = some m.cls := findClass_of_methodNamed B.named
  have hlocks := B.notSynchronized
  subst hsz
  have hD := hD0.self (sz := s.heap.size)
  have hK := hkn.1
  have hAO := hkn.2.2
  generalize hAe : va_A [(h0, .inr (11, [.ref tp, .ref rd, .ref se, .ref ba, .ref of, .ref pl, .ref sr, .ref sc, .int 0])), (pl, .inr (5, [.ref of, .ref k1, .ref k2, .ref k3, .ref k4, .int 0, .int 0, .int 0])), (of, .inr (2, [.ref g1, .ref g2, .ref g3, .ref g4, .ref g5, .int 0, .ref g6, .ref g7, .ref g8])), (g6, .inl (E.2 0, 4, .inl fc)), (g7, .inl (E.2 0, 4, .inl (fun _ => 0)))] s.heap.size = A at hD hst ⊢
  have hA : ∀ q : Nat, s.heap.size ≤ q → A q := fun q h => by rw [← hAe]; exact Or.inr h
  have hS : va_S A s.heap s.heap [] := va_S.rf
  have hP : va_P E.1 vwCl [(h0, .inr (11, [.ref tp, .ref rd, .ref se, .ref ba, .ref of, .ref pl, .ref sr, .ref sc, .int 0])), (pl, .inr (5, [.ref of, .ref k1, .ref k2, .ref k3, .ref k4, .int 0, .int 0, .int 0])), (of, .inr (2, [.ref g1, .ref g2, .ref g3, .ref g4, .ref g5, .int 0, .ref g6, .ref g7, .ref g8])), (g6, .inl (E.2 0, 4, .inl fc)), (g7, .inl (E.2 0, 4, .inl (fun _ => 0)))] s.heap := hP
  have hl := lv_entry ([.ref h0, .int cr, .int port, .int day]) (n := 4) (Nat.le_of_ble_eq_true rfl)
  rw [lg_entry_eq]
  generalize (lg_sl ([.ref h0, .int cr, .int port, .int day]) ++ List.replicate (4 - (lg_sl ([.ref h0, .int cr, .int port, .int day])).length) Slot.unset).toArray = ls at hl ⊢
  have hl : lv_has ls 4 [(0, .ref h0), (1, .int cr), (2, .int port), (3, .int day)] := hl
  have fl42 := hts (.fieldLink RX11 42 "BoatsHome" "offers" "LBoatsHome$Offers;") (by decide +kernel)
  have fl51 := hts (.fieldLink RX11 51 "BoatsHome" "latestPlan" "LBoatsHome$Plan;") (by decide +kernel)
  have fl198 := hts (.fieldLink RX11 198 "BoatsHome$Plan" "made" "Z") (by decide +kernel)
  have fl206 := hts (.fieldLink RX11 206 "BoatsHome$Offers" "crewPorts" "[I") (by decide +kernel)
  have fl209 := hts (.fieldLink RX11 209 "BoatsHome$Offers" "crewDays" "[I") (by decide +kernel)
  have inX11 : ∀ w ∈ u_ws RX11 TX11 9, w ∈ wsX11_crew := by decide +kernel
  have inX2 : ∀ w ∈ u_ws RX2 TX2 9, w ∈ wsX11_crew := by decide +kernel
  have inX5 : ∀ w ∈ u_ws RX5 TX5 8, w ∈ wsX11_crew := by decide +kernel
  refine lv_iload_n hx hb dX11_crew_0 rfl (lv_at hl 1 rfl) ?_
  refine lv_iconst (v := 4) hx hb dX11_crew_1 (by decide) ?_
  have hPc := hP.sub (ws' := []) [] rfl
  have hDc := hD.sub (ws' := []) [] (by decide) rfl
  have hFc := va_free (wc := []) hD hS hA [] rfl
  refine va_calli (va_runS (As := [.int cr, .int 4]) (rest := []) ⟨hx, hb, hml, hown, hts⟩ (c_X11_below l E cr 4 3 s.heap.size (lt_le (by decide))) (va_cwS 2 hts gX11_crew_X11_below rfl rfl rfl (by decide +kernel) ⟨Nat.le_of_ble_eq_true rfl, Nat.le_of_ble_eq_true rfl⟩) ⟨pcW_blind, (pcW_pre hPc hkn hDc hst hS hFc)⟩ rfl rfl hl.1 rfl (lv_room (Nat.le_of_ble_eq_true rfl)) dX11_crew_2 ⟨Nat.le_of_ble_eq_true rfl, Nat.le_of_ble_eq_true rfl⟩) hS (fun q _ h => hFc q h) hFc (fun r1 u t H1 locs ht hvm hw2 hB hz1 hk1 hS => ?_)
  obtain ⟨hP1, hD1⟩ := hB
  rw [ht] at hP1
  try dsimp only at hw2
  obtain ⟨hP, hD⟩ := va_join (wr := [(h0, .inr (11, [.ref tp, .ref rd, .ref se, .ref ba, .ref of, .ref pl, .ref sr, .ref sc, .int 0])), (pl, .inr (5, [.ref of, .ref k1, .ref k2, .ref k3, .ref k4, .int 0, .int 0, .int 0])), (of, .inr (2, [.ref g1, .ref g2, .ref g3, .ref g4, .ref g5, .int 0, .ref g6, .ref g7, .ref g8])), (g6, .inl (E.2 0, 4, .inl fc)), (g7, .inl (E.2 0, 4, .inl (fun _ => 0)))]) (w1 := []) hP hD [] [0, 1, 2, 3, 4] rfl rfl (by decide) (by decide) hk1 hFc hP1 hD1
  generalize H1 = H at hP hS ⊢
  have hP : va_P E.1 vwCl [(h0, .inr (11, [.ref tp, .ref rd, .ref se, .ref ba, .ref of, .ref pl, .ref sr, .ref sc, .int 0])), (pl, .inr (5, [.ref of, .ref k1, .ref k2, .ref k3, .ref k4, .int 0, .int 0, .int 0])), (of, .inr (2, [.ref g1, .ref g2, .ref g3, .ref g4, .ref g5, .int 0, .ref g6, .ref g7, .ref g8])), (g6, .inl (E.2 0, 4, .inl fc)), (g7, .inl (E.2 0, 4, .inl (fun _ => 0)))] H := hP
  have hD : va_D A [(h0, .inr (11, [.ref tp, .ref rd, .ref se, .ref ba, .ref of, .ref pl, .ref sr, .ref sc, .int 0])), (pl, .inr (5, [.ref of, .ref k1, .ref k2, .ref k3, .ref k4, .int 0, .int 0, .int 0])), (of, .inr (2, [.ref g1, .ref g2, .ref g3, .ref g4, .ref g5, .int 0, .ref g6, .ref g7, .ref g8])), (g6, .inl (E.2 0, 4, .inl fc)), (g7, .inl (E.2 0, 4, .inl (fun _ => 0)))] := hD
  refine lv_if_eq (tgt := 28) hx hb dX11_crew_5 (by decide) (fun c3 => ?_) (fun c3 => ?_)
  · have b4 : inR cr 0 3 = false := bz hw2 c3
    refine lv_bipush (v := (-2)) hx hb dX11_crew_28 (by decide) ?_
    have hP9 := hP.sub (ws' := []) [] rfl
    have hD9 := hD.sub (ws' := []) [] (by decide) rfl
    exact W.iret (v := (-2)) hx hb hr (fun t ht hW => ⟨⟨(-2), (), rfl, (by first | (rw [b4]; done) | (rw [b4]; rfl)), by rw [ht]; exact hP9, hD9⟩, hS.F ht⟩) hS.2.2 dX11_crew_30
  · have b5 : inR cr 0 3 = true := bn hw2 c3
    refine lv_iload_n hx hb dX11_crew_8 rfl (lv_at hl 2 rfl) ?_
    refine lv_bipush (v := 10) hx hb dX11_crew_9 (by decide) ?_
    have hPc := hP.sub (ws' := []) [] rfl
    have hDc := hD.sub (ws' := []) [] (by decide) rfl
    have hFc := va_free (wc := []) hD hS hA [] rfl
    refine va_calli (va_runS (As := [.int port, .int 10]) (rest := []) ⟨hx, hb, hml, hown, hts⟩ (c_X11_below l E port 10 9 H.size (lt_le (by decide))) (va_cwS 2 hts gX11_crew_X11_below rfl rfl rfl (by decide +kernel) ⟨Nat.le_of_ble_eq_true rfl, Nat.le_of_ble_eq_true rfl⟩) ⟨pcW_blind, (pcW_pre hPc hkn hDc hst hS hFc)⟩ rfl rfl hl.1 rfl (lv_room (Nat.le_of_ble_eq_true rfl)) dX11_crew_11 ⟨Nat.le_of_ble_eq_true rfl, Nat.le_of_ble_eq_true rfl⟩) hS (fun q _ h => hFc q h) hFc (fun r6 u t H1 locs ht hvm hw7 hB hz1 hk1 hS => ?_)
    obtain ⟨hP1, hD1⟩ := hB
    rw [ht] at hP1
    try dsimp only at hw7
    obtain ⟨hP, hD⟩ := va_join (wr := [(h0, .inr (11, [.ref tp, .ref rd, .ref se, .ref ba, .ref of, .ref pl, .ref sr, .ref sc, .int 0])), (pl, .inr (5, [.ref of, .ref k1, .ref k2, .ref k3, .ref k4, .int 0, .int 0, .int 0])), (of, .inr (2, [.ref g1, .ref g2, .ref g3, .ref g4, .ref g5, .int 0, .ref g6, .ref g7, .ref g8])), (g6, .inl (E.2 0, 4, .inl fc)), (g7, .inl (E.2 0, 4, .inl (fun _ => 0)))]) (w1 := []) hP hD [] [0, 1, 2, 3, 4] rfl rfl (by decide) (by decide) hk1 hFc hP1 hD1
    generalize H1 = H at hP hS ⊢
    have hP : va_P E.1 vwCl [(h0, .inr (11, [.ref tp, .ref rd, .ref se, .ref ba, .ref of, .ref pl, .ref sr, .ref sc, .int 0])), (pl, .inr (5, [.ref of, .ref k1, .ref k2, .ref k3, .ref k4, .int 0, .int 0, .int 0])), (of, .inr (2, [.ref g1, .ref g2, .ref g3, .ref g4, .ref g5, .int 0, .ref g6, .ref g7, .ref g8])), (g6, .inl (E.2 0, 4, .inl fc)), (g7, .inl (E.2 0, 4, .inl (fun _ => 0)))] H := hP
    have hD : va_D A [(h0, .inr (11, [.ref tp, .ref rd, .ref se, .ref ba, .ref of, .ref pl, .ref sr, .ref sc, .int 0])), (pl, .inr (5, [.ref of, .ref k1, .ref k2, .ref k3, .ref k4, .int 0, .int 0, .int 0])), (of, .inr (2, [.ref g1, .ref g2, .ref g3, .ref g4, .ref g5, .int 0, .ref g6, .ref g7, .ref g8])), (g6, .inl (E.2 0, 4, .inl fc)), (g7, .inl (E.2 0, 4, .inl (fun _ => 0)))] := hD
    refine lv_if_eq (tgt := 28) hx hb dX11_crew_14 (by decide) (fun c8 => ?_) (fun c8 => ?_)
    · have b9 : inR port 0 9 = false := bz hw7 c8
      refine lv_bipush (v := (-2)) hx hb dX11_crew_28 (by decide) ?_
      have hP9 := hP.sub (ws' := []) [] rfl
      have hD9 := hD.sub (ws' := []) [] (by decide) rfl
      exact W.iret (v := (-2)) hx hb hr (fun t ht hW => ⟨⟨(-2), (), rfl, (by first | (rw [b5, b9]; done) | (rw [b5, b9]; rfl)), by rw [ht]; exact hP9, hD9⟩, hS.F ht⟩) hS.2.2 dX11_crew_30
    · have b10 : inR port 0 9 = true := bn hw7 c8
      refine lv_iload_n hx hb dX11_crew_17 rfl (lv_at hl 3 rfl) ?_
      refine lv_iconst (v := 0) hx hb dX11_crew_18 (by decide) ?_
      refine lv_sipush (v := 999) hx hb dX11_crew_19 (by decide) ?_
      have hPc := hP.sub (ws' := []) [] rfl
      have hDc := hD.sub (ws' := []) [] (by decide) rfl
      have hFc := va_free (wc := []) hD hS hA [] rfl
      refine va_calli (va_runS (As := [.int day, .int 0, .int 999]) (rest := []) ⟨hx, hb, hml, hown, hts⟩ (c_X11_within l E day 0 999 H.size ) (va_cwS 3 hts gX11_crew_X11_within rfl rfl rfl (by decide +kernel) ⟨Nat.le_of_ble_eq_true rfl, Nat.le_of_ble_eq_true rfl⟩) ⟨pcW_blind, (pcW_pre hPc hkn hDc hst hS hFc)⟩ rfl rfl hl.1 rfl (lv_room (Nat.le_of_ble_eq_true rfl)) dX11_crew_22 ⟨Nat.le_of_ble_eq_true rfl, Nat.le_of_ble_eq_true rfl⟩) hS (fun q _ h => hFc q h) hFc (fun r11 u t H1 locs ht hvm hw12 hB hz1 hk1 hS => ?_)
      obtain ⟨hP1, hD1⟩ := hB
      rw [ht] at hP1
      try dsimp only at hw12
      obtain ⟨hP, hD⟩ := va_join (wr := [(h0, .inr (11, [.ref tp, .ref rd, .ref se, .ref ba, .ref of, .ref pl, .ref sr, .ref sc, .int 0])), (pl, .inr (5, [.ref of, .ref k1, .ref k2, .ref k3, .ref k4, .int 0, .int 0, .int 0])), (of, .inr (2, [.ref g1, .ref g2, .ref g3, .ref g4, .ref g5, .int 0, .ref g6, .ref g7, .ref g8])), (g6, .inl (E.2 0, 4, .inl fc)), (g7, .inl (E.2 0, 4, .inl (fun _ => 0)))]) (w1 := []) hP hD [] [0, 1, 2, 3, 4] rfl rfl (by decide) (by decide) hk1 hFc hP1 hD1
      generalize H1 = H at hP hS ⊢
      have hP : va_P E.1 vwCl [(h0, .inr (11, [.ref tp, .ref rd, .ref se, .ref ba, .ref of, .ref pl, .ref sr, .ref sc, .int 0])), (pl, .inr (5, [.ref of, .ref k1, .ref k2, .ref k3, .ref k4, .int 0, .int 0, .int 0])), (of, .inr (2, [.ref g1, .ref g2, .ref g3, .ref g4, .ref g5, .int 0, .ref g6, .ref g7, .ref g8])), (g6, .inl (E.2 0, 4, .inl fc)), (g7, .inl (E.2 0, 4, .inl (fun _ => 0)))] H := hP
      have hD : va_D A [(h0, .inr (11, [.ref tp, .ref rd, .ref se, .ref ba, .ref of, .ref pl, .ref sr, .ref sc, .int 0])), (pl, .inr (5, [.ref of, .ref k1, .ref k2, .ref k3, .ref k4, .int 0, .int 0, .int 0])), (of, .inr (2, [.ref g1, .ref g2, .ref g3, .ref g4, .ref g5, .int 0, .ref g6, .ref g7, .ref g8])), (g6, .inl (E.2 0, 4, .inl fc)), (g7, .inl (E.2 0, 4, .inl (fun _ => 0)))] := hD
      refine lv_if_ne (tgt := 31) hx hb dX11_crew_25 (by decide) (fun c13 => ?_) (fun c13 => ?_)
      · have b14 : inR day 0 999 = true := bn hw12 c13
        refine lv_aload_n hx hb dX11_crew_31 rfl (lv_at hl 0 rfl) ?_
        refine va_get (D := E.1) (ci := 11) (v := .ref pl) (C := RX11) (T := TX11) (N := 9) hx hb hts inX11 hown hK hP 0 rfl rfl 5 (by decide) fl51 (fun _ h9 => h9) rfl dX11_crew_32 ?_
        refine lv_iconst (v := 0) hx hb dX11_crew_35 (by decide) ?_
        refine va_put (D := E.1) (ci := 5) (v := .int 0) (ty := .boolean) (C := RX5) (T := TX5) (N := 8) hx hb hts inX5 tyX5 tyX5_ok nmX5 hown hK hP hD hS 1 rfl rfl 5 (by decide) fl198 (fun _ h9 => h9) rfl (by decide +kernel) (by first | rfl | decide) (by first | rfl | decide) (Nat.le_of_ble_eq_true rfl) dX11_crew_36 (fun H locs hP hD hS => ?_)
        have hP : va_P E.1 vwCl [(h0, .inr (11, [.ref tp, .ref rd, .ref se, .ref ba, .ref of, .ref pl, .ref sr, .ref sc, .int 0])), (pl, .inr (5, [.ref of, .ref k1, .ref k2, .ref k3, .ref k4, .int 0, .int 0, .int 0])), (of, .inr (2, [.ref g1, .ref g2, .ref g3, .ref g4, .ref g5, .int 0, .ref g6, .ref g7, .ref g8])), (g6, .inl (E.2 0, 4, .inl fc)), (g7, .inl (E.2 0, 4, .inl (fun _ => 0)))] H := hP
        have hD : va_D A [(h0, .inr (11, [.ref tp, .ref rd, .ref se, .ref ba, .ref of, .ref pl, .ref sr, .ref sc, .int 0])), (pl, .inr (5, [.ref of, .ref k1, .ref k2, .ref k3, .ref k4, .int 0, .int 0, .int 0])), (of, .inr (2, [.ref g1, .ref g2, .ref g3, .ref g4, .ref g5, .int 0, .ref g6, .ref g7, .ref g8])), (g6, .inl (E.2 0, 4, .inl fc)), (g7, .inl (E.2 0, 4, .inl (fun _ => 0)))] := hD
        refine lv_aload_n hx hb dX11_crew_39 rfl (lv_at hl 0 rfl) ?_
        refine va_get (D := E.1) (ci := 11) (v := .ref of) (C := RX11) (T := TX11) (N := 9) hx hb hts inX11 hown hK hP 0 rfl rfl 4 (by decide) fl42 (fun _ h9 => h9) rfl dX11_crew_40 ?_
        refine va_get (D := E.1) (ci := 2) (v := .ref g6) (C := RX2) (T := TX2) (N := 9) hx hb hts inX2 hown hK hP 2 rfl rfl 6 (by decide) fl206 (fun _ h9 => h9) rfl dX11_crew_43 ?_
        refine lv_iload_n hx hb dX11_crew_46 rfl (lv_at hl 1 rfl) ?_
        refine lv_iload_n hx hb dX11_crew_47 rfl (lv_at hl 2 rfl) ?_
        have hi15 : vp_in cr 4 := inR_in (by decide) b5
        refine va_iast hx hb hK hP hD hS 3 0 rfl rfl hi15 dX11_crew_48 (fun H locs hP hD hS => ?_)
        have hP : va_P E.1 vwCl [(h0, .inr (11, [.ref tp, .ref rd, .ref se, .ref ba, .ref of, .ref pl, .ref sr, .ref sc, .int 0])), (pl, .inr (5, [.ref of, .ref k1, .ref k2, .ref k3, .ref k4, .int 0, .int 0, .int 0])), (of, .inr (2, [.ref g1, .ref g2, .ref g3, .ref g4, .ref g5, .int 0, .ref g6, .ref g7, .ref g8])), (g6, .inl (E.2 0, 4, .inl (upd fc cr.toNatClampNeg port))), (g7, .inl (E.2 0, 4, .inl (fun _ => 0)))] H := hP
        have hD : va_D A [(h0, .inr (11, [.ref tp, .ref rd, .ref se, .ref ba, .ref of, .ref pl, .ref sr, .ref sc, .int 0])), (pl, .inr (5, [.ref of, .ref k1, .ref k2, .ref k3, .ref k4, .int 0, .int 0, .int 0])), (of, .inr (2, [.ref g1, .ref g2, .ref g3, .ref g4, .ref g5, .int 0, .ref g6, .ref g7, .ref g8])), (g6, .inl (E.2 0, 4, .inl (upd fc cr.toNatClampNeg port))), (g7, .inl (E.2 0, 4, .inl (fun _ => 0)))] := hD
        obtain ⟨f16, ef16⟩ : ∃ g : Nat → Int32, g = upd fc cr.toNatClampNeg port := ⟨_, rfl⟩
        rw [← ef16] at hP hD
        refine lv_aload_n hx hb dX11_crew_49 rfl (lv_at hl 0 rfl) ?_
        refine va_get (D := E.1) (ci := 11) (v := .ref of) (C := RX11) (T := TX11) (N := 9) hx hb hts inX11 hown hK hP 0 rfl rfl 4 (by decide) fl42 (fun _ h9 => h9) rfl dX11_crew_50 ?_
        refine va_get (D := E.1) (ci := 2) (v := .ref g7) (C := RX2) (T := TX2) (N := 9) hx hb hts inX2 hown hK hP 2 rfl rfl 7 (by decide) fl209 (fun _ h9 => h9) rfl dX11_crew_53 ?_
        refine lv_iload_n hx hb dX11_crew_56 rfl (lv_at hl 1 rfl) ?_
        refine lv_iload_n hx hb dX11_crew_57 rfl (lv_at hl 3 rfl) ?_
        refine va_iast hx hb hK hP hD hS 4 0 rfl rfl hi15 dX11_crew_58 (fun H locs hP hD hS => ?_)
        have hP : va_P E.1 vwCl [(h0, .inr (11, [.ref tp, .ref rd, .ref se, .ref ba, .ref of, .ref pl, .ref sr, .ref sc, .int 0])), (pl, .inr (5, [.ref of, .ref k1, .ref k2, .ref k3, .ref k4, .int 0, .int 0, .int 0])), (of, .inr (2, [.ref g1, .ref g2, .ref g3, .ref g4, .ref g5, .int 0, .ref g6, .ref g7, .ref g8])), (g6, .inl (E.2 0, 4, .inl f16)), (g7, .inl (E.2 0, 4, .inl (upd (fun _ => 0) cr.toNatClampNeg day)))] H := hP
        have hD : va_D A [(h0, .inr (11, [.ref tp, .ref rd, .ref se, .ref ba, .ref of, .ref pl, .ref sr, .ref sc, .int 0])), (pl, .inr (5, [.ref of, .ref k1, .ref k2, .ref k3, .ref k4, .int 0, .int 0, .int 0])), (of, .inr (2, [.ref g1, .ref g2, .ref g3, .ref g4, .ref g5, .int 0, .ref g6, .ref g7, .ref g8])), (g6, .inl (E.2 0, 4, .inl f16)), (g7, .inl (E.2 0, 4, .inl (upd (fun _ => 0) cr.toNatClampNeg day)))] := hD
        obtain ⟨f17, ef17⟩ : ∃ g : Nat → Int32, g = upd (fun _ => 0) cr.toNatClampNeg day := ⟨_, rfl⟩
        rw [← ef17] at hP hD
        refine lv_iconst (v := 1) hx hb dX11_crew_59 (by decide) ?_
        have hP9 := hP.sub (ws' := []) [] rfl
        have hD9 := hD.sub (ws' := []) [] (by decide) rfl
        exact W.iret (v := 1) hx hb hr (fun t ht hW => ⟨⟨1, (), rfl, (by first | (rw [b5, b10, b14]; done) | (rw [b5, b10, b14]; rfl)), by rw [ht]; exact hP9, hD9⟩, hS.F ht⟩) hS.2.2 dX11_crew_60
      · have b18 : inR day 0 999 = false := bz hw12 c13
        refine lv_bipush (v := (-2)) hx hb dX11_crew_28 (by decide) ?_
        have hP9 := hP.sub (ws' := []) [] rfl
        have hD9 := hD.sub (ws' := []) [] (by decide) rfl
        exact W.iret (v := (-2)) hx hb hr (fun t ht hW => ⟨⟨(-2), (), rfl, (by first | (rw [b5, b10, b18]; done) | (rw [b5, b10, b18]; rfl)), by rw [ht]; exact hP9, hD9⟩, hS.F ht⟩) hS.2.2 dX11_crew_30
set_option maxHeartbeats 4000000 in
set_option maxRecDepth 100000 in
theorem c_X11_flight (l : Launch) (E : vE) (h0 : Nat) (tp : Nat) (rd : Nat) (se : Nat) (ba : Nat) (of : Nat) (pl : Nat) (sr : Nat) (sc : Nat) (g1 : Nat) (g2 : Nat) (g3 : Nat) (g4 : Nat) (g5 : Nat) (g6 : Nat) (g7 : Nat) (g8 : Nat) (k1 : Nat) (k2 : Nat) (k3 : Nat) (k4 : Nat) (pp : Int32) (qq : Int32) (cost : Int32) (ff : Nat → Int32) (sz : Nat) (hff : ∀ k, k < 100 → ff k = if k % 11 = 0 then 0 else -1) : Met l yX11_flight wsX11_flight ({ frames := 2, cells := 0, slots := 0, locals := 40 }) (pcW E [.ref h0, .int pp, .int qq, .int cost] sz [(h0, .inr (11, [.ref tp, .ref rd, .ref se, .ref ba, .ref of, .ref pl, .ref sr, .ref sc, .int 0])), (pl, .inr (5, [.ref of, .ref k1, .ref k2, .ref k3, .ref k4, .int 0, .int 0, .int 0])), (of, .inr (2, [.ref g1, .ref g2, .ref g3, .ref g4, .ref g5, .int 0, .ref g6, .ref g7, .ref g8])), (g8, .inl (E.2 0, 100, .inl ff))]) (va_Qi (fun (r : Int32) (_ : Unit) => r = cond (inR pp 0 9 && inR qq 0 9 && !(decide (pp = qq)) && inR cost (-1) 10000) (-1) (-2)) (fun (_ : Unit) (t : State) => wB E (va_A [(h0, .inr (11, [.ref tp, .ref rd, .ref se, .ref ba, .ref of, .ref pl, .ref sr, .ref sc, .int 0])), (pl, .inr (5, [.ref of, .ref k1, .ref k2, .ref k3, .ref k4, .int 0, .int 0, .int 0])), (of, .inr (2, [.ref g1, .ref g2, .ref g3, .ref g4, .ref g5, .int 0, .ref g6, .ref g7, .ref g8])), (g8, .inl (E.2 0, 100, .inl ff))] sz) [] t) (va_A [(h0, .inr (11, [.ref tp, .ref rd, .ref se, .ref ba, .ref of, .ref pl, .ref sr, .ref sc, .int 0])), (pl, .inr (5, [.ref of, .ref k1, .ref k2, .ref k3, .ref k4, .int 0, .int 0, .int 0])), (of, .inr (2, [.ref g1, .ref g2, .ref g3, .ref g4, .ref g5, .int 0, .ref g6, .ref g7, .ref g8])), (g8, .inl (E.2 0, 100, .inl ff))] sz)) 0 0 (va_A [(h0, .inr (11, [.ref tp, .ref rd, .ref se, .ref ba, .ref of, .ref pl, .ref sr, .ref sc, .int 0])), (pl, .inr (5, [.ref of, .ref k1, .ref k2, .ref k3, .ref k4, .int 0, .int 0, .int 0])), (of, .inr (2, [.ref g1, .ref g2, .ref g3, .ref g4, .ref g5, .int 0, .ref g6, .ref g7, .ref g8])), (g8, .inl (E.2 0, 100, .inl ff))] sz) := by
  refine Met.ofW (cc := cX11_flight) (maxL := 5) (ret := (some .int)) (by decide) rfl ?_
  intro p e s m args below meth c s₁ B hml hv
  obtain ⟨rfl, hsz, hP, hkn, hD0, hst⟩ := hv
  have hx := B.exec
  have hb := B.bytes
  have hr := B.returns
  have hts := atoms_spec (ws := wsX11_flight) B.pre
  have hown : s.vm.findClass RX11 = some m.cls := findClass_of_methodNamed B.named
  have hlocks := B.notSynchronized
  subst hsz
  have hD := hD0.self (sz := s.heap.size)
  have hK := hkn.1
  have hAO := hkn.2.2
  generalize hAe : va_A [(h0, .inr (11, [.ref tp, .ref rd, .ref se, .ref ba, .ref of, .ref pl, .ref sr, .ref sc, .int 0])), (pl, .inr (5, [.ref of, .ref k1, .ref k2, .ref k3, .ref k4, .int 0, .int 0, .int 0])), (of, .inr (2, [.ref g1, .ref g2, .ref g3, .ref g4, .ref g5, .int 0, .ref g6, .ref g7, .ref g8])), (g8, .inl (E.2 0, 100, .inl ff))] s.heap.size = A at hD hst ⊢
  have hA : ∀ q : Nat, s.heap.size ≤ q → A q := fun q h => by rw [← hAe]; exact Or.inr h
  have hS : va_S A s.heap s.heap [] := va_S.rf
  have hP : va_P E.1 vwCl [(h0, .inr (11, [.ref tp, .ref rd, .ref se, .ref ba, .ref of, .ref pl, .ref sr, .ref sc, .int 0])), (pl, .inr (5, [.ref of, .ref k1, .ref k2, .ref k3, .ref k4, .int 0, .int 0, .int 0])), (of, .inr (2, [.ref g1, .ref g2, .ref g3, .ref g4, .ref g5, .int 0, .ref g6, .ref g7, .ref g8])), (g8, .inl (E.2 0, 100, .inl ff))] s.heap := hP
  have hl := lv_entry ([.ref h0, .int pp, .int qq, .int cost]) (n := 5) (Nat.le_of_ble_eq_true rfl)
  rw [lg_entry_eq]
  generalize (lg_sl ([.ref h0, .int pp, .int qq, .int cost]) ++ List.replicate (5 - (lg_sl ([.ref h0, .int pp, .int qq, .int cost])).length) Slot.unset).toArray = ls at hl ⊢
  have hl : lv_has ls 5 [(0, .ref h0), (1, .int pp), (2, .int qq), (3, .int cost)] := hl
  have fl42 := hts (.fieldLink RX11 42 "BoatsHome" "offers" "LBoatsHome$Offers;") (by decide +kernel)
  have fl51 := hts (.fieldLink RX11 51 "BoatsHome" "latestPlan" "LBoatsHome$Plan;") (by decide +kernel)
  have fl198 := hts (.fieldLink RX11 198 "BoatsHome$Plan" "made" "Z") (by decide +kernel)
  have fl212 := hts (.fieldLink RX11 212 "BoatsHome$Offers" "fares" "[I") (by decide +kernel)
  have inX11 : ∀ w ∈ u_ws RX11 TX11 9, w ∈ wsX11_flight := by decide +kernel
  have inX2 : ∀ w ∈ u_ws RX2 TX2 9, w ∈ wsX11_flight := by decide +kernel
  have inX5 : ∀ w ∈ u_ws RX5 TX5 8, w ∈ wsX11_flight := by decide +kernel
  refine lv_iload_n hx hb dX11_flight_0 rfl (lv_at hl 1 rfl) ?_
  refine lv_bipush (v := 10) hx hb dX11_flight_1 (by decide) ?_
  have hPc := hP.sub (ws' := []) [] rfl
  have hDc := hD.sub (ws' := []) [] (by decide) rfl
  have hFc := va_free (wc := []) hD hS hA [] rfl
  refine va_calli (va_runS (As := [.int pp, .int 10]) (rest := []) ⟨hx, hb, hml, hown, hts⟩ (c_X11_below l E pp 10 9 s.heap.size (lt_le (by decide))) (va_cwS 2 hts gX11_flight_X11_below rfl rfl rfl (by decide +kernel) ⟨Nat.le_of_ble_eq_true rfl, Nat.le_of_ble_eq_true rfl⟩) ⟨pcW_blind, (pcW_pre hPc hkn hDc hst hS hFc)⟩ rfl rfl hl.1 rfl (lv_room (Nat.le_of_ble_eq_true rfl)) dX11_flight_3 ⟨Nat.le_of_ble_eq_true rfl, Nat.le_of_ble_eq_true rfl⟩) hS (fun q _ h => hFc q h) hFc (fun r1 u t H1 locs ht hvm hw2 hB hz1 hk1 hS => ?_)
  obtain ⟨hP1, hD1⟩ := hB
  rw [ht] at hP1
  try dsimp only at hw2
  obtain ⟨hP, hD⟩ := va_join (wr := [(h0, .inr (11, [.ref tp, .ref rd, .ref se, .ref ba, .ref of, .ref pl, .ref sr, .ref sc, .int 0])), (pl, .inr (5, [.ref of, .ref k1, .ref k2, .ref k3, .ref k4, .int 0, .int 0, .int 0])), (of, .inr (2, [.ref g1, .ref g2, .ref g3, .ref g4, .ref g5, .int 0, .ref g6, .ref g7, .ref g8])), (g8, .inl (E.2 0, 100, .inl ff))]) (w1 := []) hP hD [] [0, 1, 2, 3] rfl rfl (by decide) (by decide) hk1 hFc hP1 hD1
  generalize H1 = H at hP hS ⊢
  have hP : va_P E.1 vwCl [(h0, .inr (11, [.ref tp, .ref rd, .ref se, .ref ba, .ref of, .ref pl, .ref sr, .ref sc, .int 0])), (pl, .inr (5, [.ref of, .ref k1, .ref k2, .ref k3, .ref k4, .int 0, .int 0, .int 0])), (of, .inr (2, [.ref g1, .ref g2, .ref g3, .ref g4, .ref g5, .int 0, .ref g6, .ref g7, .ref g8])), (g8, .inl (E.2 0, 100, .inl ff))] H := hP
  have hD : va_D A [(h0, .inr (11, [.ref tp, .ref rd, .ref se, .ref ba, .ref of, .ref pl, .ref sr, .ref sc, .int 0])), (pl, .inr (5, [.ref of, .ref k1, .ref k2, .ref k3, .ref k4, .int 0, .int 0, .int 0])), (of, .inr (2, [.ref g1, .ref g2, .ref g3, .ref g4, .ref g5, .int 0, .ref g6, .ref g7, .ref g8])), (g8, .inl (E.2 0, 100, .inl ff))] := hD
  refine lv_if_eq (tgt := 34) hx hb dX11_flight_6 (by decide) (fun c3 => ?_) (fun c3 => ?_)
  · have b4 : inR pp 0 9 = false := bz hw2 c3
    refine lv_bipush (v := (-2)) hx hb dX11_flight_34 (by decide) ?_
    have hP9 := hP.sub (ws' := []) [] rfl
    have hD9 := hD.sub (ws' := []) [] (by decide) rfl
    exact W.iret (v := (-2)) hx hb hr (fun t ht hW => ⟨⟨(-2), (), rfl, (by first | (rw [b4]; done) | (rw [b4]; rfl)), by rw [ht]; exact hP9, hD9⟩, hS.F ht⟩) hS.2.2 dX11_flight_36
  · have b5 : inR pp 0 9 = true := bn hw2 c3
    refine lv_iload_n hx hb dX11_flight_9 rfl (lv_at hl 2 rfl) ?_
    refine lv_bipush (v := 10) hx hb dX11_flight_10 (by decide) ?_
    have hPc := hP.sub (ws' := []) [] rfl
    have hDc := hD.sub (ws' := []) [] (by decide) rfl
    have hFc := va_free (wc := []) hD hS hA [] rfl
    refine va_calli (va_runS (As := [.int qq, .int 10]) (rest := []) ⟨hx, hb, hml, hown, hts⟩ (c_X11_below l E qq 10 9 H.size (lt_le (by decide))) (va_cwS 2 hts gX11_flight_X11_below rfl rfl rfl (by decide +kernel) ⟨Nat.le_of_ble_eq_true rfl, Nat.le_of_ble_eq_true rfl⟩) ⟨pcW_blind, (pcW_pre hPc hkn hDc hst hS hFc)⟩ rfl rfl hl.1 rfl (lv_room (Nat.le_of_ble_eq_true rfl)) dX11_flight_12 ⟨Nat.le_of_ble_eq_true rfl, Nat.le_of_ble_eq_true rfl⟩) hS (fun q _ h => hFc q h) hFc (fun r6 u t H1 locs ht hvm hw7 hB hz1 hk1 hS => ?_)
    obtain ⟨hP1, hD1⟩ := hB
    rw [ht] at hP1
    try dsimp only at hw7
    obtain ⟨hP, hD⟩ := va_join (wr := [(h0, .inr (11, [.ref tp, .ref rd, .ref se, .ref ba, .ref of, .ref pl, .ref sr, .ref sc, .int 0])), (pl, .inr (5, [.ref of, .ref k1, .ref k2, .ref k3, .ref k4, .int 0, .int 0, .int 0])), (of, .inr (2, [.ref g1, .ref g2, .ref g3, .ref g4, .ref g5, .int 0, .ref g6, .ref g7, .ref g8])), (g8, .inl (E.2 0, 100, .inl ff))]) (w1 := []) hP hD [] [0, 1, 2, 3] rfl rfl (by decide) (by decide) hk1 hFc hP1 hD1
    generalize H1 = H at hP hS ⊢
    have hP : va_P E.1 vwCl [(h0, .inr (11, [.ref tp, .ref rd, .ref se, .ref ba, .ref of, .ref pl, .ref sr, .ref sc, .int 0])), (pl, .inr (5, [.ref of, .ref k1, .ref k2, .ref k3, .ref k4, .int 0, .int 0, .int 0])), (of, .inr (2, [.ref g1, .ref g2, .ref g3, .ref g4, .ref g5, .int 0, .ref g6, .ref g7, .ref g8])), (g8, .inl (E.2 0, 100, .inl ff))] H := hP
    have hD : va_D A [(h0, .inr (11, [.ref tp, .ref rd, .ref se, .ref ba, .ref of, .ref pl, .ref sr, .ref sc, .int 0])), (pl, .inr (5, [.ref of, .ref k1, .ref k2, .ref k3, .ref k4, .int 0, .int 0, .int 0])), (of, .inr (2, [.ref g1, .ref g2, .ref g3, .ref g4, .ref g5, .int 0, .ref g6, .ref g7, .ref g8])), (g8, .inl (E.2 0, 100, .inl ff))] := hD
    refine lv_if_eq (tgt := 34) hx hb dX11_flight_15 (by decide) (fun c8 => ?_) (fun c8 => ?_)
    · have b9 : inR qq 0 9 = false := bz hw7 c8
      refine lv_bipush (v := (-2)) hx hb dX11_flight_34 (by decide) ?_
      have hP9 := hP.sub (ws' := []) [] rfl
      have hD9 := hD.sub (ws' := []) [] (by decide) rfl
      exact W.iret (v := (-2)) hx hb hr (fun t ht hW => ⟨⟨(-2), (), rfl, (by first | (rw [b5, b9]; done) | (rw [b5, b9]; rfl)), by rw [ht]; exact hP9, hD9⟩, hS.F ht⟩) hS.2.2 dX11_flight_36
    · have b10 : inR qq 0 9 = true := bn hw7 c8
      refine lv_iload_n hx hb dX11_flight_18 rfl (lv_at hl 1 rfl) ?_
      refine lv_iload_n hx hb dX11_flight_19 rfl (lv_at hl 2 rfl) ?_
      refine lv_icmp_eq (tgt := 34) hx hb dX11_flight_20 (by decide) (fun c11 => ?_) (fun c11 => ?_)
      · refine lv_bipush (v := (-2)) hx hb dX11_flight_34 (by decide) ?_
        have hP9 := hP.sub (ws' := []) [] rfl
        have hD9 := hD.sub (ws' := []) [] (by decide) rfl
        exact W.iret (v := (-2)) hx hb hr (fun t ht hW => ⟨⟨(-2), (), rfl, (by first | (rw [b5, b10, decide_eq_true c11]; done) | (rw [b5, b10, decide_eq_true c11]; rfl)), by rw [ht]; exact hP9, hD9⟩, hS.F ht⟩) hS.2.2 dX11_flight_36
      · refine lv_iload_n hx hb dX11_flight_23 rfl (lv_at hl 3 rfl) ?_
        refine lv_iconst (v := (-1)) hx hb dX11_flight_24 (by decide) ?_
        refine lv_sipush (v := 10000) hx hb dX11_flight_25 (by decide) ?_
        have hPc := hP.sub (ws' := []) [] rfl
        have hDc := hD.sub (ws' := []) [] (by decide) rfl
        have hFc := va_free (wc := []) hD hS hA [] rfl
        refine va_calli (va_runS (As := [.int cost, .int (-1), .int 10000]) (rest := []) ⟨hx, hb, hml, hown, hts⟩ (c_X11_within l E cost (-1) 10000 H.size ) (va_cwS 3 hts gX11_flight_X11_within rfl rfl rfl (by decide +kernel) ⟨Nat.le_of_ble_eq_true rfl, Nat.le_of_ble_eq_true rfl⟩) ⟨pcW_blind, (pcW_pre hPc hkn hDc hst hS hFc)⟩ rfl rfl hl.1 rfl (lv_room (Nat.le_of_ble_eq_true rfl)) dX11_flight_28 ⟨Nat.le_of_ble_eq_true rfl, Nat.le_of_ble_eq_true rfl⟩) hS (fun q _ h => hFc q h) hFc (fun r12 u t H1 locs ht hvm hw13 hB hz1 hk1 hS => ?_)
        obtain ⟨hP1, hD1⟩ := hB
        rw [ht] at hP1
        try dsimp only at hw13
        obtain ⟨hP, hD⟩ := va_join (wr := [(h0, .inr (11, [.ref tp, .ref rd, .ref se, .ref ba, .ref of, .ref pl, .ref sr, .ref sc, .int 0])), (pl, .inr (5, [.ref of, .ref k1, .ref k2, .ref k3, .ref k4, .int 0, .int 0, .int 0])), (of, .inr (2, [.ref g1, .ref g2, .ref g3, .ref g4, .ref g5, .int 0, .ref g6, .ref g7, .ref g8])), (g8, .inl (E.2 0, 100, .inl ff))]) (w1 := []) hP hD [] [0, 1, 2, 3] rfl rfl (by decide) (by decide) hk1 hFc hP1 hD1
        generalize H1 = H at hP hS ⊢
        have hP : va_P E.1 vwCl [(h0, .inr (11, [.ref tp, .ref rd, .ref se, .ref ba, .ref of, .ref pl, .ref sr, .ref sc, .int 0])), (pl, .inr (5, [.ref of, .ref k1, .ref k2, .ref k3, .ref k4, .int 0, .int 0, .int 0])), (of, .inr (2, [.ref g1, .ref g2, .ref g3, .ref g4, .ref g5, .int 0, .ref g6, .ref g7, .ref g8])), (g8, .inl (E.2 0, 100, .inl ff))] H := hP
        have hD : va_D A [(h0, .inr (11, [.ref tp, .ref rd, .ref se, .ref ba, .ref of, .ref pl, .ref sr, .ref sc, .int 0])), (pl, .inr (5, [.ref of, .ref k1, .ref k2, .ref k3, .ref k4, .int 0, .int 0, .int 0])), (of, .inr (2, [.ref g1, .ref g2, .ref g3, .ref g4, .ref g5, .int 0, .ref g6, .ref g7, .ref g8])), (g8, .inl (E.2 0, 100, .inl ff))] := hD
        refine lv_if_ne (tgt := 37) hx hb dX11_flight_31 (by decide) (fun c14 => ?_) (fun c14 => ?_)
        · have b15 : inR cost (-1) 10000 = true := bn hw13 c14
          refine lv_aload_n hx hb dX11_flight_37 rfl (lv_at hl 0 rfl) ?_
          refine va_get (D := E.1) (ci := 11) (v := .ref pl) (C := RX11) (T := TX11) (N := 9) hx hb hts inX11 hown hK hP 0 rfl rfl 5 (by decide) fl51 (fun _ h9 => h9) rfl dX11_flight_38 ?_
          refine lv_iconst (v := 0) hx hb dX11_flight_41 (by decide) ?_
          refine va_put (D := E.1) (ci := 5) (v := .int 0) (ty := .boolean) (C := RX5) (T := TX5) (N := 8) hx hb hts inX5 tyX5 tyX5_ok nmX5 hown hK hP hD hS 1 rfl rfl 5 (by decide) fl198 (fun _ h9 => h9) rfl (by decide +kernel) (by first | rfl | decide) (by first | rfl | decide) (Nat.le_of_ble_eq_true rfl) dX11_flight_42 (fun H locs hP hD hS => ?_)
          have hP : va_P E.1 vwCl [(h0, .inr (11, [.ref tp, .ref rd, .ref se, .ref ba, .ref of, .ref pl, .ref sr, .ref sc, .int 0])), (pl, .inr (5, [.ref of, .ref k1, .ref k2, .ref k3, .ref k4, .int 0, .int 0, .int 0])), (of, .inr (2, [.ref g1, .ref g2, .ref g3, .ref g4, .ref g5, .int 0, .ref g6, .ref g7, .ref g8])), (g8, .inl (E.2 0, 100, .inl ff))] H := hP
          have hD : va_D A [(h0, .inr (11, [.ref tp, .ref rd, .ref se, .ref ba, .ref of, .ref pl, .ref sr, .ref sc, .int 0])), (pl, .inr (5, [.ref of, .ref k1, .ref k2, .ref k3, .ref k4, .int 0, .int 0, .int 0])), (of, .inr (2, [.ref g1, .ref g2, .ref g3, .ref g4, .ref g5, .int 0, .ref g6, .ref g7, .ref g8])), (g8, .inl (E.2 0, 100, .inl ff))] := hD
          refine lv_aload_n hx hb dX11_flight_45 rfl (lv_at hl 0 rfl) ?_
          refine va_get (D := E.1) (ci := 11) (v := .ref of) (C := RX11) (T := TX11) (N := 9) hx hb hts inX11 hown hK hP 0 rfl rfl 4 (by decide) fl42 (fun _ h9 => h9) rfl dX11_flight_46 ?_
          refine va_get (D := E.1) (ci := 2) (v := .ref g8) (C := RX2) (T := TX2) (N := 9) hx hb hts inX2 hown hK hP 2 rfl rfl 8 (by decide) fl212 (fun _ h9 => h9) rfl dX11_flight_49 ?_
          refine lv_iload_n hx hb dX11_flight_52 rfl (lv_at hl 1 rfl) ?_
          refine lv_bipush (v := 10) hx hb dX11_flight_53 (by decide) ?_
          refine lv_imul hx hb dX11_flight_55 ?_
          refine lv_topi (fun x16 ex16 => ?_)
          refine lv_iload_n hx hb dX11_flight_56 rfl (lv_at hl 2 rfl) ?_
          refine lv_iadd hx hb dX11_flight_57 ?_
          refine lv_topi (fun x17 ex17 => ?_)
          have hi18 : vp_in x17 100 := by rw [ex17, ex16]; exact ixA b5 (a := 9) (by decide) b10 (b := 9) (by decide) (M := 10) rfl (by decide) (by decide)
          refine va_iald hx hb hK hP 3 0 rfl rfl hi18 dX11_flight_58 ?_
          refine lv_topi (fun x19 ex19 => ?_)
          obtain rfl : x19 = -1 := by rw [ex19, ex17, ex16]; exact ff_read hff b5 b10 c11
          refine lv_istore (lv' := [(4, .int (-1)), (0, .ref h0), (1, .int pp), (2, .int qq), (3, .int cost)]) hx hb dX11_flight_59 hl (by decide) rfl (fun ls hl => ?_)
          refine lv_aload_n hx hb dX11_flight_61 rfl (lv_at hl 1 rfl) ?_
          refine va_get (D := E.1) (ci := 11) (v := .ref of) (C := RX11) (T := TX11) (N := 9) hx hb hts inX11 hown hK hP 0 rfl rfl 4 (by decide) fl42 (fun _ h9 => h9) rfl dX11_flight_62 ?_
          refine va_get (D := E.1) (ci := 2) (v := .ref g8) (C := RX2) (T := TX2) (N := 9) hx hb hts inX2 hown hK hP 2 rfl rfl 8 (by decide) fl212 (fun _ h9 => h9) rfl dX11_flight_65 ?_
          refine lv_iload_n hx hb dX11_flight_68 rfl (lv_at hl 2 rfl) ?_
          refine lv_bipush (v := 10) hx hb dX11_flight_69 (by decide) ?_
          refine lv_imul hx hb dX11_flight_71 ?_
          refine lv_topi (fun x20 ex20 => ?_)
          refine lv_iload_n hx hb dX11_flight_72 rfl (lv_at hl 3 rfl) ?_
          refine lv_iadd hx hb dX11_flight_73 ?_
          refine lv_topi (fun x21 ex21 => ?_)
          refine lv_iload_n hx hb dX11_flight_74 rfl (lv_at hl 4 rfl) ?_
          have hi22 : vp_in x21 100 := by rw [ex21, ex20]; exact ixA b5 (a := 9) (by decide) b10 (b := 9) (by decide) (M := 10) rfl (by decide) (by decide)
          refine va_iast hx hb hK hP hD hS 3 0 rfl rfl hi22 dX11_flight_75 (fun H locs hP hD hS => ?_)
          have hP : va_P E.1 vwCl [(h0, .inr (11, [.ref tp, .ref rd, .ref se, .ref ba, .ref of, .ref pl, .ref sr, .ref sc, .int 0])), (pl, .inr (5, [.ref of, .ref k1, .ref k2, .ref k3, .ref k4, .int 0, .int 0, .int 0])), (of, .inr (2, [.ref g1, .ref g2, .ref g3, .ref g4, .ref g5, .int 0, .ref g6, .ref g7, .ref g8])), (g8, .inl (E.2 0, 100, .inl (upd ff x21.toNatClampNeg cost)))] H := hP
          have hD : va_D A [(h0, .inr (11, [.ref tp, .ref rd, .ref se, .ref ba, .ref of, .ref pl, .ref sr, .ref sc, .int 0])), (pl, .inr (5, [.ref of, .ref k1, .ref k2, .ref k3, .ref k4, .int 0, .int 0, .int 0])), (of, .inr (2, [.ref g1, .ref g2, .ref g3, .ref g4, .ref g5, .int 0, .ref g6, .ref g7, .ref g8])), (g8, .inl (E.2 0, 100, .inl (upd ff x21.toNatClampNeg cost)))] := hD
          obtain ⟨f23, ef23⟩ : ∃ g : Nat → Int32, g = upd ff x21.toNatClampNeg cost := ⟨_, rfl⟩
          rw [← ef23] at hP hD
          refine lv_aload_n hx hb dX11_flight_76 rfl (lv_at hl 1 rfl) ?_
          refine va_get (D := E.1) (ci := 11) (v := .ref of) (C := RX11) (T := TX11) (N := 9) hx hb hts inX11 hown hK hP 0 rfl rfl 4 (by decide) fl42 (fun _ h9 => h9) rfl dX11_flight_77 ?_
          refine va_get (D := E.1) (ci := 2) (v := .ref g8) (C := RX2) (T := TX2) (N := 9) hx hb hts inX2 hown hK hP 2 rfl rfl 8 (by decide) fl212 (fun _ h9 => h9) rfl dX11_flight_80 ?_
          refine lv_iload_n hx hb dX11_flight_83 rfl (lv_at hl 3 rfl) ?_
          refine lv_bipush (v := 10) hx hb dX11_flight_84 (by decide) ?_
          refine lv_imul hx hb dX11_flight_86 ?_
          refine lv_topi (fun x24 ex24 => ?_)
          refine lv_iload_n hx hb dX11_flight_87 rfl (lv_at hl 2 rfl) ?_
          refine lv_iadd hx hb dX11_flight_88 ?_
          refine lv_topi (fun x25 ex25 => ?_)
          refine lv_iload_n hx hb dX11_flight_89 rfl (lv_at hl 4 rfl) ?_
          have hi26 : vp_in x25 100 := by rw [ex25, ex24]; exact ixA b10 (a := 9) (by decide) b5 (b := 9) (by decide) (M := 10) rfl (by decide) (by decide)
          refine va_iast hx hb hK hP hD hS 3 0 rfl rfl hi26 dX11_flight_90 (fun H locs hP hD hS => ?_)
          have hP : va_P E.1 vwCl [(h0, .inr (11, [.ref tp, .ref rd, .ref se, .ref ba, .ref of, .ref pl, .ref sr, .ref sc, .int 0])), (pl, .inr (5, [.ref of, .ref k1, .ref k2, .ref k3, .ref k4, .int 0, .int 0, .int 0])), (of, .inr (2, [.ref g1, .ref g2, .ref g3, .ref g4, .ref g5, .int 0, .ref g6, .ref g7, .ref g8])), (g8, .inl (E.2 0, 100, .inl (upd f23 x25.toNatClampNeg cost)))] H := hP
          have hD : va_D A [(h0, .inr (11, [.ref tp, .ref rd, .ref se, .ref ba, .ref of, .ref pl, .ref sr, .ref sc, .int 0])), (pl, .inr (5, [.ref of, .ref k1, .ref k2, .ref k3, .ref k4, .int 0, .int 0, .int 0])), (of, .inr (2, [.ref g1, .ref g2, .ref g3, .ref g4, .ref g5, .int 0, .ref g6, .ref g7, .ref g8])), (g8, .inl (E.2 0, 100, .inl (upd f23 x25.toNatClampNeg cost)))] := hD
          obtain ⟨f27, ef27⟩ : ∃ g : Nat → Int32, g = upd f23 x25.toNatClampNeg cost := ⟨_, rfl⟩
          rw [← ef27] at hP hD
          refine lv_iload hx hb dX11_flight_91 (lv_at hl 0 rfl) ?_
          have hP9 := hP.sub (ws' := []) [] rfl
          have hD9 := hD.sub (ws' := []) [] (by decide) rfl
          exact W.iret (v := (-1)) hx hb hr (fun t ht hW => ⟨⟨(-1), (), rfl, (by first | (rw [b5, b10, b15, decide_eq_false c11]; done) | (rw [b5, b10, b15, decide_eq_false c11]; rfl)), by rw [ht]; exact hP9, hD9⟩, hS.F ht⟩) hS.2.2 dX11_flight_93
        · have b28 : inR cost (-1) 10000 = false := bz hw13 c14
          refine lv_bipush (v := (-2)) hx hb dX11_flight_34 (by decide) ?_
          have hP9 := hP.sub (ws' := []) [] rfl
          have hD9 := hD.sub (ws' := []) [] (by decide) rfl
          exact W.iret (v := (-2)) hx hb hr (fun t ht hW => ⟨⟨(-2), (), rfl, (by first | (rw [b5, b10, b28, decide_eq_false c11]; done) | (rw [b5, b10, b28, decide_eq_false c11]; rfl)), by rw [ht]; exact hP9, hD9⟩, hS.F ht⟩) hS.2.2 dX11_flight_36
set_option maxHeartbeats 4000000 in
set_option maxRecDepth 100000 in
theorem c_X11_planned (l : Launch) (E : vE) (h0 : Nat) (tp : Nat) (rd : Nat) (se : Nat) (ba : Nat) (of : Nat) (pl : Nat) (sr : Nat) (sc : Nat) (k1 : Nat) (k2 : Nat) (k3 : Nat) (k4 : Nat) (what : Int32) (sz : Nat) : Met l yX11_planned wsX11_planned ({ frames := 0, cells := 0, slots := 0, locals := 0 }) (pcW E [.ref h0, .int what] sz [(h0, .inr (11, [.ref tp, .ref rd, .ref se, .ref ba, .ref of, .ref pl, .ref sr, .ref sc, .int 0])), (pl, .inr (5, [.ref of, .ref k1, .ref k2, .ref k3, .ref k4, .int 0, .int 0, .int 0]))]) (va_Qi (fun (r : Int32) (_ : Unit) => r = -9) (fun (_ : Unit) (t : State) => wB E (va_A [(h0, .inr (11, [.ref tp, .ref rd, .ref se, .ref ba, .ref of, .ref pl, .ref sr, .ref sc, .int 0])), (pl, .inr (5, [.ref of, .ref k1, .ref k2, .ref k3, .ref k4, .int 0, .int 0, .int 0]))] sz) [] t) (va_A [(h0, .inr (11, [.ref tp, .ref rd, .ref se, .ref ba, .ref of, .ref pl, .ref sr, .ref sc, .int 0])), (pl, .inr (5, [.ref of, .ref k1, .ref k2, .ref k3, .ref k4, .int 0, .int 0, .int 0]))] sz)) 0 0 (va_A [(h0, .inr (11, [.ref tp, .ref rd, .ref se, .ref ba, .ref of, .ref pl, .ref sr, .ref sc, .int 0])), (pl, .inr (5, [.ref of, .ref k1, .ref k2, .ref k3, .ref k4, .int 0, .int 0, .int 0]))] sz) := by
  refine Met.ofW (cc := cX11_planned) (maxL := 2) (ret := (some .int)) (by decide) rfl ?_
  intro p e s m args below meth c s₁ B hml hv
  obtain ⟨rfl, hsz, hP, hkn, hD0, hst⟩ := hv
  have hx := B.exec
  have hb := B.bytes
  have hr := B.returns
  have hts := atoms_spec (ws := wsX11_planned) B.pre
  have hown : s.vm.findClass RX11 = some m.cls := findClass_of_methodNamed B.named
  have hlocks := B.notSynchronized
  subst hsz
  have hD := hD0.self (sz := s.heap.size)
  have hK := hkn.1
  have hAO := hkn.2.2
  generalize hAe : va_A [(h0, .inr (11, [.ref tp, .ref rd, .ref se, .ref ba, .ref of, .ref pl, .ref sr, .ref sc, .int 0])), (pl, .inr (5, [.ref of, .ref k1, .ref k2, .ref k3, .ref k4, .int 0, .int 0, .int 0]))] s.heap.size = A at hD hst ⊢
  have hA : ∀ q : Nat, s.heap.size ≤ q → A q := fun q h => by rw [← hAe]; exact Or.inr h
  have hS : va_S A s.heap s.heap [] := va_S.rf
  have hP : va_P E.1 vwCl [(h0, .inr (11, [.ref tp, .ref rd, .ref se, .ref ba, .ref of, .ref pl, .ref sr, .ref sc, .int 0])), (pl, .inr (5, [.ref of, .ref k1, .ref k2, .ref k3, .ref k4, .int 0, .int 0, .int 0]))] s.heap := hP
  have hl := lv_entry ([.ref h0, .int what]) (n := 2) (Nat.le_of_ble_eq_true rfl)
  rw [lg_entry_eq]
  generalize (lg_sl ([.ref h0, .int what]) ++ List.replicate (2 - (lg_sl ([.ref h0, .int what])).length) Slot.unset).toArray = ls at hl ⊢
  have hl : lv_has ls 2 [(0, .ref h0), (1, .int what)] := hl
  have fl42 := hts (.fieldLink RX11 42 "BoatsHome" "offers" "LBoatsHome$Offers;") (by decide +kernel)
  have fl51 := hts (.fieldLink RX11 51 "BoatsHome" "latestPlan" "LBoatsHome$Plan;") (by decide +kernel)
  have fl197 := hts (.fieldLink RX11 197 "BoatsHome$Offers" "size" "I") (by decide +kernel)
  have fl198 := hts (.fieldLink RX11 198 "BoatsHome$Plan" "made" "Z") (by decide +kernel)
  have fl221 := hts (.fieldLink RX11 221 "BoatsHome$Plan" "flightSum" "I") (by decide +kernel)
  have fl224 := hts (.fieldLink RX11 224 "BoatsHome$Plan" "crewOf" "[I") (by decide +kernel)
  have fl227 := hts (.fieldLink RX11 227 "BoatsHome$Plan" "dayOf" "[I") (by decide +kernel)
  have inX11 : ∀ w ∈ u_ws RX11 TX11 9, w ∈ wsX11_planned := by decide +kernel
  have inX2 : ∀ w ∈ u_ws RX2 TX2 9, w ∈ wsX11_planned := by decide +kernel
  have inX5 : ∀ w ∈ u_ws RX5 TX5 8, w ∈ wsX11_planned := by decide +kernel
  refine lv_aload_n hx hb dX11_planned_0 rfl (lv_at hl 0 rfl) ?_
  refine va_get (D := E.1) (ci := 11) (v := .ref pl) (C := RX11) (T := TX11) (N := 9) hx hb hts inX11 hown hK hP 0 rfl rfl 5 (by decide) fl51 (fun _ h9 => h9) rfl dX11_planned_1 ?_
  refine va_get (D := E.1) (ci := 5) (v := .int 0) (C := RX5) (T := TX5) (N := 8) hx hb hts inX5 hown hK hP 1 rfl rfl 5 (by decide) fl198 (fun _ h9 => h9) rfl dX11_planned_4 ?_
  refine lv_if_ne (tgt := 13) hx hb dX11_planned_7 (by decide) (fun c9 => absurd c9 (by decide)) (fun _ => ?_)
  refine lv_bipush (v := (-9)) hx hb dX11_planned_10 (by decide) ?_
  have hP9 := hP.sub (ws' := []) [] rfl
  have hD9 := hD.sub (ws' := []) [] (by decide) rfl
  exact W.iret (v := (-9)) hx hb hr (fun t ht hW => ⟨⟨(-9), (), rfl, rfl, by rw [ht]; exact hP9, hD9⟩, hS.F ht⟩) hS.2.2 dX11_planned_12
set_option maxHeartbeats 4000000 in
set_option maxRecDepth 100000 in
theorem c_X2_crewsTold (l : Launch) (E : vE) (h0 : Nat) (g1 : Nat) (g2 : Nat) (g3 : Nat) (g4 : Nat) (g5 : Nat) (g6 : Nat) (g7 : Nat) (g8 : Nat) (fc : Nat → Int32) (sz : Nat) (hfc : ∀ k, k < 4 → fc k = -1) : Met l yX2_crewsTold wsX2_crewsTold ({ frames := 0, cells := 0, slots := 0, locals := 0 }) (pcW E [.ref h0] sz [(h0, .inr (2, [.ref g1, .ref g2, .ref g3, .ref g4, .ref g5, .int 0, .ref g6, .ref g7, .ref g8])), (g6, .inl (E.2 0, 4, .inl fc))]) (va_Qi (fun (r : Int32) (_ : Unit) => r = 0) (fun (_ : Unit) (t : State) => wB E (va_A [(h0, .inr (2, [.ref g1, .ref g2, .ref g3, .ref g4, .ref g5, .int 0, .ref g6, .ref g7, .ref g8])), (g6, .inl (E.2 0, 4, .inl fc))] sz) [] t) (va_A [(h0, .inr (2, [.ref g1, .ref g2, .ref g3, .ref g4, .ref g5, .int 0, .ref g6, .ref g7, .ref g8])), (g6, .inl (E.2 0, 4, .inl fc))] sz)) 0 0 (va_A [(h0, .inr (2, [.ref g1, .ref g2, .ref g3, .ref g4, .ref g5, .int 0, .ref g6, .ref g7, .ref g8])), (g6, .inl (E.2 0, 4, .inl fc))] sz) := by
  refine Met.ofW (cc := cX2_crewsTold) (maxL := 3) (ret := (some .int)) (by decide) rfl ?_
  intro p e s m args below meth c s₁ B hml hv
  obtain ⟨rfl, hsz, hP, hkn, hD0, hst⟩ := hv
  have hx := B.exec
  have hb := B.bytes
  have hr := B.returns
  have hts := atoms_spec (ws := wsX2_crewsTold) B.pre
  have hown : s.vm.findClass RX2 = some m.cls := findClass_of_methodNamed B.named
  have hlocks := B.notSynchronized
  subst hsz
  have hD := hD0.self (sz := s.heap.size)
  have hK := hkn.1
  have hAO := hkn.2.2
  generalize hAe : va_A [(h0, .inr (2, [.ref g1, .ref g2, .ref g3, .ref g4, .ref g5, .int 0, .ref g6, .ref g7, .ref g8])), (g6, .inl (E.2 0, 4, .inl fc))] s.heap.size = A at hD hst ⊢
  have hA : ∀ q : Nat, s.heap.size ≤ q → A q := fun q h => by rw [← hAe]; exact Or.inr h
  have hS : va_S A s.heap s.heap [] := va_S.rf
  have hP : va_P E.1 vwCl [(h0, .inr (2, [.ref g1, .ref g2, .ref g3, .ref g4, .ref g5, .int 0, .ref g6, .ref g7, .ref g8])), (g6, .inl (E.2 0, 4, .inl fc))] s.heap := hP
  have hl := lv_entry ([.ref h0]) (n := 3) (Nat.le_of_ble_eq_true rfl)
  rw [lg_entry_eq]
  generalize (lg_sl ([.ref h0]) ++ List.replicate (3 - (lg_sl ([.ref h0])).length) Slot.unset).toArray = ls at hl ⊢
  have hl : lv_has ls 3 [(0, .ref h0)] := hl
  have fl31 := hts (.fieldLink RX2 31 "BoatsHome$Offers" "crewPorts" "[I") (by decide +kernel)
  have inX2 : ∀ w ∈ u_ws RX2 TX2 9, w ∈ wsX2_crewsTold := by decide +kernel
  refine lv_iconst (v := 0) hx hb dX2_crewsTold_0 (by decide) ?_
  refine lv_istore_n (lv' := [(1, .int 0), (0, .ref h0)]) hx hb dX2_crewsTold_1 rfl hl (by decide) rfl (fun ls hl => ?_)
  refine lv_iconst (v := 0) hx hb dX2_crewsTold_2 (by decide) ?_
  refine lv_istore_n (lv' := [(2, .int 0), (1, .int 0), (0, .ref h0)]) hx hb dX2_crewsTold_3 rfl hl (by decide) rfl (fun ls hl => ?_)
  refine lv_iload_n hx hb dX2_crewsTold_4 rfl (lv_at hl 0 rfl) ?_
  refine lv_iconst (v := 4) hx hb dX2_crewsTold_5 (by decide) ?_
  refine lv_icmp_ge (tgt := 33) hx hb dX2_crewsTold_6 (by decide) (fun c9 => absurd c9 (by decide)) (fun _ => ?_)
  refine lv_iload_n hx hb dX2_crewsTold_9 rfl (lv_at hl 1 rfl) ?_
  refine lv_aload_n hx hb dX2_crewsTold_10 rfl (lv_at hl 2 rfl) ?_
  refine va_get (D := E.1) (ci := 2) (v := .ref g6) (C := RX2) (T := TX2) (N := 9) hx hb hts inX2 hown hK hP 0 rfl rfl 6 (by decide) fl31 (fun _ h9 => h9) rfl dX2_crewsTold_11 ?_
  refine lv_iload_n hx hb dX2_crewsTold_14 rfl (lv_at hl 0 rfl) ?_
  refine va_iald hx hb hK hP 1 0 rfl rfl (show vp_in 0 4 from by unfold vp_in; decide) dX2_crewsTold_15 ?_
  refine lv_topi (fun x1 ex1 => ?_)
  obtain rfl : x1 = -1 := ex1.trans (hfc 0 (by decide))
  refine lv_iconst (v := (-1)) hx hb dX2_crewsTold_16 (by decide) ?_
  refine lv_icmp_ne (tgt := 24) hx hb dX2_crewsTold_17 (by decide) (fun c9 => absurd c9 (by decide)) (fun _ => ?_)
  refine lv_iconst (v := 0) hx hb dX2_crewsTold_20 (by decide) ?_
  refine lv_goto (tgt := 25) hx hb dX2_crewsTold_21 (by decide) ?_
  refine lv_iadd hx hb dX2_crewsTold_25 ?_
  refine lv_topi (fun x2 ex2 => ?_)
  obtain rfl : x2 = 0 := ex2.trans (by decide +kernel)
  refine lv_istore_n (lv' := [(1, .int 0), (2, .int 0), (0, .ref h0)]) hx hb dX2_crewsTold_26 rfl hl (by decide) rfl (fun ls hl => ?_)
  refine lv_iinc (v := 1) (lv' := [(2, .int 1), (1, .int 0), (0, .ref h0)]) hx hb dX2_crewsTold_27 hl (k := 1) rfl (by decide) (by decide) rfl (fun ls hl => ?_)
  refine lv_goto (tgt := 4) hx hb dX2_crewsTold_30 (by decide) ?_
  refine lv_iload_n hx hb dX2_crewsTold_4 rfl (lv_at hl 0 rfl) ?_
  refine lv_iconst (v := 4) hx hb dX2_crewsTold_5 (by decide) ?_
  refine lv_icmp_ge (tgt := 33) hx hb dX2_crewsTold_6 (by decide) (fun c9 => absurd c9 (by decide)) (fun _ => ?_)
  refine lv_iload_n hx hb dX2_crewsTold_9 rfl (lv_at hl 1 rfl) ?_
  refine lv_aload_n hx hb dX2_crewsTold_10 rfl (lv_at hl 2 rfl) ?_
  refine va_get (D := E.1) (ci := 2) (v := .ref g6) (C := RX2) (T := TX2) (N := 9) hx hb hts inX2 hown hK hP 0 rfl rfl 6 (by decide) fl31 (fun _ h9 => h9) rfl dX2_crewsTold_11 ?_
  refine lv_iload_n hx hb dX2_crewsTold_14 rfl (lv_at hl 0 rfl) ?_
  refine va_iald hx hb hK hP 1 0 rfl rfl (show vp_in 1 4 from by unfold vp_in; decide) dX2_crewsTold_15 ?_
  refine lv_topi (fun x3 ex3 => ?_)
  obtain rfl : x3 = -1 := ex3.trans (hfc 1 (by decide))
  refine lv_iconst (v := (-1)) hx hb dX2_crewsTold_16 (by decide) ?_
  refine lv_icmp_ne (tgt := 24) hx hb dX2_crewsTold_17 (by decide) (fun c9 => absurd c9 (by decide)) (fun _ => ?_)
  refine lv_iconst (v := 0) hx hb dX2_crewsTold_20 (by decide) ?_
  refine lv_goto (tgt := 25) hx hb dX2_crewsTold_21 (by decide) ?_
  refine lv_iadd hx hb dX2_crewsTold_25 ?_
  refine lv_topi (fun x4 ex4 => ?_)
  obtain rfl : x4 = 0 := ex4.trans (by decide +kernel)
  refine lv_istore_n (lv' := [(1, .int 0), (2, .int 1), (0, .ref h0)]) hx hb dX2_crewsTold_26 rfl hl (by decide) rfl (fun ls hl => ?_)
  refine lv_iinc (v := 2) (lv' := [(2, .int 2), (1, .int 0), (0, .ref h0)]) hx hb dX2_crewsTold_27 hl (k := 1) rfl (by decide) (by decide) rfl (fun ls hl => ?_)
  refine lv_goto (tgt := 4) hx hb dX2_crewsTold_30 (by decide) ?_
  refine lv_iload_n hx hb dX2_crewsTold_4 rfl (lv_at hl 0 rfl) ?_
  refine lv_iconst (v := 4) hx hb dX2_crewsTold_5 (by decide) ?_
  refine lv_icmp_ge (tgt := 33) hx hb dX2_crewsTold_6 (by decide) (fun c9 => absurd c9 (by decide)) (fun _ => ?_)
  refine lv_iload_n hx hb dX2_crewsTold_9 rfl (lv_at hl 1 rfl) ?_
  refine lv_aload_n hx hb dX2_crewsTold_10 rfl (lv_at hl 2 rfl) ?_
  refine va_get (D := E.1) (ci := 2) (v := .ref g6) (C := RX2) (T := TX2) (N := 9) hx hb hts inX2 hown hK hP 0 rfl rfl 6 (by decide) fl31 (fun _ h9 => h9) rfl dX2_crewsTold_11 ?_
  refine lv_iload_n hx hb dX2_crewsTold_14 rfl (lv_at hl 0 rfl) ?_
  refine va_iald hx hb hK hP 1 0 rfl rfl (show vp_in 2 4 from by unfold vp_in; decide) dX2_crewsTold_15 ?_
  refine lv_topi (fun x5 ex5 => ?_)
  obtain rfl : x5 = -1 := ex5.trans (hfc 2 (by decide))
  refine lv_iconst (v := (-1)) hx hb dX2_crewsTold_16 (by decide) ?_
  refine lv_icmp_ne (tgt := 24) hx hb dX2_crewsTold_17 (by decide) (fun c9 => absurd c9 (by decide)) (fun _ => ?_)
  refine lv_iconst (v := 0) hx hb dX2_crewsTold_20 (by decide) ?_
  refine lv_goto (tgt := 25) hx hb dX2_crewsTold_21 (by decide) ?_
  refine lv_iadd hx hb dX2_crewsTold_25 ?_
  refine lv_topi (fun x6 ex6 => ?_)
  obtain rfl : x6 = 0 := ex6.trans (by decide +kernel)
  refine lv_istore_n (lv' := [(1, .int 0), (2, .int 2), (0, .ref h0)]) hx hb dX2_crewsTold_26 rfl hl (by decide) rfl (fun ls hl => ?_)
  refine lv_iinc (v := 3) (lv' := [(2, .int 3), (1, .int 0), (0, .ref h0)]) hx hb dX2_crewsTold_27 hl (k := 1) rfl (by decide) (by decide) rfl (fun ls hl => ?_)
  refine lv_goto (tgt := 4) hx hb dX2_crewsTold_30 (by decide) ?_
  refine lv_iload_n hx hb dX2_crewsTold_4 rfl (lv_at hl 0 rfl) ?_
  refine lv_iconst (v := 4) hx hb dX2_crewsTold_5 (by decide) ?_
  refine lv_icmp_ge (tgt := 33) hx hb dX2_crewsTold_6 (by decide) (fun c9 => absurd c9 (by decide)) (fun _ => ?_)
  refine lv_iload_n hx hb dX2_crewsTold_9 rfl (lv_at hl 1 rfl) ?_
  refine lv_aload_n hx hb dX2_crewsTold_10 rfl (lv_at hl 2 rfl) ?_
  refine va_get (D := E.1) (ci := 2) (v := .ref g6) (C := RX2) (T := TX2) (N := 9) hx hb hts inX2 hown hK hP 0 rfl rfl 6 (by decide) fl31 (fun _ h9 => h9) rfl dX2_crewsTold_11 ?_
  refine lv_iload_n hx hb dX2_crewsTold_14 rfl (lv_at hl 0 rfl) ?_
  refine va_iald hx hb hK hP 1 0 rfl rfl (show vp_in 3 4 from by unfold vp_in; decide) dX2_crewsTold_15 ?_
  refine lv_topi (fun x7 ex7 => ?_)
  obtain rfl : x7 = -1 := ex7.trans (hfc 3 (by decide))
  refine lv_iconst (v := (-1)) hx hb dX2_crewsTold_16 (by decide) ?_
  refine lv_icmp_ne (tgt := 24) hx hb dX2_crewsTold_17 (by decide) (fun c9 => absurd c9 (by decide)) (fun _ => ?_)
  refine lv_iconst (v := 0) hx hb dX2_crewsTold_20 (by decide) ?_
  refine lv_goto (tgt := 25) hx hb dX2_crewsTold_21 (by decide) ?_
  refine lv_iadd hx hb dX2_crewsTold_25 ?_
  refine lv_topi (fun x8 ex8 => ?_)
  obtain rfl : x8 = 0 := ex8.trans (by decide +kernel)
  refine lv_istore_n (lv' := [(1, .int 0), (2, .int 3), (0, .ref h0)]) hx hb dX2_crewsTold_26 rfl hl (by decide) rfl (fun ls hl => ?_)
  refine lv_iinc (v := 4) (lv' := [(2, .int 4), (1, .int 0), (0, .ref h0)]) hx hb dX2_crewsTold_27 hl (k := 1) rfl (by decide) (by decide) rfl (fun ls hl => ?_)
  refine lv_goto (tgt := 4) hx hb dX2_crewsTold_30 (by decide) ?_
  refine lv_iload_n hx hb dX2_crewsTold_4 rfl (lv_at hl 0 rfl) ?_
  refine lv_iconst (v := 4) hx hb dX2_crewsTold_5 (by decide) ?_
  refine lv_icmp_ge (tgt := 33) hx hb dX2_crewsTold_6 (by decide) (fun _ => ?_) (fun c9 => absurd c9 (by decide))
  refine lv_iload_n hx hb dX2_crewsTold_33 rfl (lv_at hl 1 rfl) ?_
  have hP9 := hP.sub (ws' := []) [] rfl
  have hD9 := hD.sub (ws' := []) [] (by decide) rfl
  exact W.iret (v := 0) hx hb hr (fun t ht hW => ⟨⟨0, (), rfl, rfl, by rw [ht]; exact hP9, hD9⟩, hS.F ht⟩) hS.2.2 dX2_crewsTold_34
set_option maxHeartbeats 4000000 in
set_option maxRecDepth 100000 in
theorem c_X11_count (l : Launch) (E : vE) (h0 : Nat) (tp : Nat) (rd : Nat) (se : Nat) (ba : Nat) (of : Nat) (pl : Nat) (sr : Nat) (sc : Nat) (bo : Nat) (sp : Nat) (pa : Nat) (ru : Nat) (co : Nat) (tr : Nat) (fb : Nat → Option Nat) (g1 : Nat) (g2 : Nat) (g3 : Nat) (g4 : Nat) (g5 : Nat) (g6 : Nat) (g7 : Nat) (g8 : Nat) (u1 : Nat) (u2 : Nat) (u3 : Nat) (u4 : Nat) (bx : Nat) (wi : Nat) (po : Nat) (by_ : Nat) (fc : Nat → Int32) (what : Int32) (sz : Nat) (hfb10 : inR what 10 15 = true → fb (what - 10).toNatClampNeg = some bo) (hfb20 : inR what 20 25 = true → fb (what - 20).toNatClampNeg = some bo) (hfc : ∀ k, k < 4 → fc k = -1) : Met l yX11_count wsX11_count ({ frames := 2, cells := 0, slots := 0, locals := 40 }) (pcW E [.ref h0, .int what] sz [(h0, .inr (11, [.ref tp, .ref rd, .ref se, .ref ba, .ref of, .ref pl, .ref sr, .ref sc, .int 0])), (ba, .inl (E.2 4, 6, .inr (.inr (.inr (.inr fb))))), (bo, .inr (0, [.ref sp, .ref pa, .int 0, .ref ru, .ref co, .ref tr])), (ru, .inr (7, [.ref u1, .ref u2, .ref u3, .ref u4, .int 0])), (co, .inr (1, [.ref bx, .int 0, .int 0, .int 9, .int 0])), (se, .inr (8, [.ref wi, .ref po])), (po, .inl (E.2 0, 10, .inl (fun _ => 0))), (of, .inr (2, [.ref g1, .ref g2, .ref g3, .ref g4, .ref g5, .int 0, .ref g6, .ref g7, .ref g8])), (g6, .inl (E.2 0, 4, .inl fc)), (tp, .inr (9, [.ref by_, .int 0]))]) (va_Qi (fun (r : Int32) (_ : Unit) => r = countS what) (fun (_ : Unit) (t : State) => wB E (va_A [(h0, .inr (11, [.ref tp, .ref rd, .ref se, .ref ba, .ref of, .ref pl, .ref sr, .ref sc, .int 0])), (ba, .inl (E.2 4, 6, .inr (.inr (.inr (.inr fb))))), (bo, .inr (0, [.ref sp, .ref pa, .int 0, .ref ru, .ref co, .ref tr])), (ru, .inr (7, [.ref u1, .ref u2, .ref u3, .ref u4, .int 0])), (co, .inr (1, [.ref bx, .int 0, .int 0, .int 9, .int 0])), (se, .inr (8, [.ref wi, .ref po])), (po, .inl (E.2 0, 10, .inl (fun _ => 0))), (of, .inr (2, [.ref g1, .ref g2, .ref g3, .ref g4, .ref g5, .int 0, .ref g6, .ref g7, .ref g8])), (g6, .inl (E.2 0, 4, .inl fc)), (tp, .inr (9, [.ref by_, .int 0]))] sz) [] t) (va_A [(h0, .inr (11, [.ref tp, .ref rd, .ref se, .ref ba, .ref of, .ref pl, .ref sr, .ref sc, .int 0])), (ba, .inl (E.2 4, 6, .inr (.inr (.inr (.inr fb))))), (bo, .inr (0, [.ref sp, .ref pa, .int 0, .ref ru, .ref co, .ref tr])), (ru, .inr (7, [.ref u1, .ref u2, .ref u3, .ref u4, .int 0])), (co, .inr (1, [.ref bx, .int 0, .int 0, .int 9, .int 0])), (se, .inr (8, [.ref wi, .ref po])), (po, .inl (E.2 0, 10, .inl (fun _ => 0))), (of, .inr (2, [.ref g1, .ref g2, .ref g3, .ref g4, .ref g5, .int 0, .ref g6, .ref g7, .ref g8])), (g6, .inl (E.2 0, 4, .inl fc)), (tp, .inr (9, [.ref by_, .int 0]))] sz)) 0 0 (va_A [(h0, .inr (11, [.ref tp, .ref rd, .ref se, .ref ba, .ref of, .ref pl, .ref sr, .ref sc, .int 0])), (ba, .inl (E.2 4, 6, .inr (.inr (.inr (.inr fb))))), (bo, .inr (0, [.ref sp, .ref pa, .int 0, .ref ru, .ref co, .ref tr])), (ru, .inr (7, [.ref u1, .ref u2, .ref u3, .ref u4, .int 0])), (co, .inr (1, [.ref bx, .int 0, .int 0, .int 9, .int 0])), (se, .inr (8, [.ref wi, .ref po])), (po, .inl (E.2 0, 10, .inl (fun _ => 0))), (of, .inr (2, [.ref g1, .ref g2, .ref g3, .ref g4, .ref g5, .int 0, .ref g6, .ref g7, .ref g8])), (g6, .inl (E.2 0, 4, .inl fc)), (tp, .inr (9, [.ref by_, .int 0]))] sz) := by
  refine Met.ofW (cc := cX11_count) (maxL := 2) (ret := (some .int)) (by decide) rfl ?_
  intro p e s m args below meth c s₁ B hml hv
  obtain ⟨rfl, hsz, hP, hkn, hD0, hst⟩ := hv
  have hx := B.exec
  have hb := B.bytes
  have hr := B.returns
  have hts := atoms_spec (ws := wsX11_count) B.pre
  have hown : s.vm.findClass RX11 = some m.cls := findClass_of_methodNamed B.named
  have hlocks := B.notSynchronized
  subst hsz
  have hD := hD0.self (sz := s.heap.size)
  have hK := hkn.1
  have hAO := hkn.2.2
  generalize hAe : va_A [(h0, .inr (11, [.ref tp, .ref rd, .ref se, .ref ba, .ref of, .ref pl, .ref sr, .ref sc, .int 0])), (ba, .inl (E.2 4, 6, .inr (.inr (.inr (.inr fb))))), (bo, .inr (0, [.ref sp, .ref pa, .int 0, .ref ru, .ref co, .ref tr])), (ru, .inr (7, [.ref u1, .ref u2, .ref u3, .ref u4, .int 0])), (co, .inr (1, [.ref bx, .int 0, .int 0, .int 9, .int 0])), (se, .inr (8, [.ref wi, .ref po])), (po, .inl (E.2 0, 10, .inl (fun _ => 0))), (of, .inr (2, [.ref g1, .ref g2, .ref g3, .ref g4, .ref g5, .int 0, .ref g6, .ref g7, .ref g8])), (g6, .inl (E.2 0, 4, .inl fc)), (tp, .inr (9, [.ref by_, .int 0]))] s.heap.size = A at hD hst ⊢
  have hA : ∀ q : Nat, s.heap.size ≤ q → A q := fun q h => by rw [← hAe]; exact Or.inr h
  have hS : va_S A s.heap s.heap [] := va_S.rf
  have hP : va_P E.1 vwCl [(h0, .inr (11, [.ref tp, .ref rd, .ref se, .ref ba, .ref of, .ref pl, .ref sr, .ref sc, .int 0])), (ba, .inl (E.2 4, 6, .inr (.inr (.inr (.inr fb))))), (bo, .inr (0, [.ref sp, .ref pa, .int 0, .ref ru, .ref co, .ref tr])), (ru, .inr (7, [.ref u1, .ref u2, .ref u3, .ref u4, .int 0])), (co, .inr (1, [.ref bx, .int 0, .int 0, .int 9, .int 0])), (se, .inr (8, [.ref wi, .ref po])), (po, .inl (E.2 0, 10, .inl (fun _ => 0))), (of, .inr (2, [.ref g1, .ref g2, .ref g3, .ref g4, .ref g5, .int 0, .ref g6, .ref g7, .ref g8])), (g6, .inl (E.2 0, 4, .inl fc)), (tp, .inr (9, [.ref by_, .int 0]))] s.heap := hP
  have hl := lv_entry ([.ref h0, .int what]) (n := 2) (Nat.le_of_ble_eq_true rfl)
  rw [lg_entry_eq]
  generalize (lg_sl ([.ref h0, .int what]) ++ List.replicate (2 - (lg_sl ([.ref h0, .int what])).length) Slot.unset).toArray = ls at hl ⊢
  have hl : lv_has ls 2 [(0, .ref h0), (1, .int what)] := hl
  have fl10 := hts (.fieldLink RX11 10 "BoatsHome" "tape" "LBoatsHome$Tape;") (by decide +kernel)
  have fl28 := hts (.fieldLink RX11 28 "BoatsHome" "sea" "LBoatsHome$Sea;") (by decide +kernel)
  have fl34 := hts (.fieldLink RX11 34 "BoatsHome" "boats" "[LBoatsHome$Boat;") (by decide +kernel)
  have fl42 := hts (.fieldLink RX11 42 "BoatsHome" "offers" "LBoatsHome$Offers;") (by decide +kernel)
  have fl69 := hts (.fieldLink RX11 69 "BoatsHome" "worked" "I") (by decide +kernel)
  have fl73 := hts (.fieldLink RX11 73 "BoatsHome$Tape" "length" "I") (by decide +kernel)
  have fl96 := hts (.fieldLink RX11 96 "BoatsHome$Sea" "ports" "[I") (by decide +kernel)
  have fl118 := hts (.fieldLink RX11 118 "BoatsHome$Boat" "rules" "LBoatsHome$Rules;") (by decide +kernel)
  have fl121 := hts (.fieldLink RX11 121 "BoatsHome$Rules" "size" "I") (by decide +kernel)
  have fl128 := hts (.fieldLink RX11 128 "BoatsHome$Boat" "cover" "LBoatsHome$Cover;") (by decide +kernel)
  have fl197 := hts (.fieldLink RX11 197 "BoatsHome$Offers" "size" "I") (by decide +kernel)
  have fl230 := hts (.fieldLink RX11 230 "BoatsHome$Cover" "boxCount" "I") (by decide +kernel)
  have inX0 : ∀ w ∈ u_ws RX0 TX0 6, w ∈ wsX11_count := by decide +kernel
  have inX1 : ∀ w ∈ u_ws RX1 TX1 5, w ∈ wsX11_count := by decide +kernel
  have inX11 : ∀ w ∈ u_ws RX11 TX11 9, w ∈ wsX11_count := by decide +kernel
  have inX2 : ∀ w ∈ u_ws RX2 TX2 9, w ∈ wsX11_count := by decide +kernel
  have inX7 : ∀ w ∈ u_ws RX7 TX7 5, w ∈ wsX11_count := by decide +kernel
  have inX8 : ∀ w ∈ u_ws RX8 TX8 2, w ∈ wsX11_count := by decide +kernel
  have inX9 : ∀ w ∈ u_ws RX9 TX9 2, w ∈ wsX11_count := by decide +kernel
  refine lv_iload_n hx hb dX11_count_0 rfl (lv_at hl 1 rfl) ?_
  refine lv_bipush (v := 10) hx hb dX11_count_1 (by decide) ?_
  refine lv_bipush (v := 15) hx hb dX11_count_3 (by decide) ?_
  have hPc := hP.sub (ws' := []) [] rfl
  have hDc := hD.sub (ws' := []) [] (by decide) rfl
  have hFc := va_free (wc := []) hD hS hA [] rfl
  refine va_calli (va_runS (As := [.int what, .int 10, .int 15]) (rest := []) ⟨hx, hb, hml, hown, hts⟩ (c_X11_within l E what 10 15 s.heap.size ) (va_cwS 3 hts gX11_count_X11_within rfl rfl rfl (by decide +kernel) ⟨Nat.le_of_ble_eq_true rfl, Nat.le_of_ble_eq_true rfl⟩) ⟨pcW_blind, (pcW_pre hPc hkn hDc hst hS hFc)⟩ rfl rfl hl.1 rfl (lv_room (Nat.le_of_ble_eq_true rfl)) dX11_count_5 ⟨Nat.le_of_ble_eq_true rfl, Nat.le_of_ble_eq_true rfl⟩) hS (fun q _ h => hFc q h) hFc (fun r1 u t H1 locs ht hvm hw2 hB hz1 hk1 hS => ?_)
  obtain ⟨hP1, hD1⟩ := hB
  rw [ht] at hP1
  try dsimp only at hw2
  obtain ⟨hP, hD⟩ := va_join (wr := [(h0, .inr (11, [.ref tp, .ref rd, .ref se, .ref ba, .ref of, .ref pl, .ref sr, .ref sc, .int 0])), (ba, .inl (E.2 4, 6, .inr (.inr (.inr (.inr fb))))), (bo, .inr (0, [.ref sp, .ref pa, .int 0, .ref ru, .ref co, .ref tr])), (ru, .inr (7, [.ref u1, .ref u2, .ref u3, .ref u4, .int 0])), (co, .inr (1, [.ref bx, .int 0, .int 0, .int 9, .int 0])), (se, .inr (8, [.ref wi, .ref po])), (po, .inl (E.2 0, 10, .inl (fun _ => 0))), (of, .inr (2, [.ref g1, .ref g2, .ref g3, .ref g4, .ref g5, .int 0, .ref g6, .ref g7, .ref g8])), (g6, .inl (E.2 0, 4, .inl fc)), (tp, .inr (9, [.ref by_, .int 0]))]) (w1 := []) hP hD [] [0, 1, 2, 3, 4, 5, 6, 7, 8, 9] rfl rfl (by decide) (by decide) hk1 hFc hP1 hD1
  generalize H1 = H at hP hS ⊢
  have hP : va_P E.1 vwCl [(h0, .inr (11, [.ref tp, .ref rd, .ref se, .ref ba, .ref of, .ref pl, .ref sr, .ref sc, .int 0])), (ba, .inl (E.2 4, 6, .inr (.inr (.inr (.inr fb))))), (bo, .inr (0, [.ref sp, .ref pa, .int 0, .ref ru, .ref co, .ref tr])), (ru, .inr (7, [.ref u1, .ref u2, .ref u3, .ref u4, .int 0])), (co, .inr (1, [.ref bx, .int 0, .int 0, .int 9, .int 0])), (se, .inr (8, [.ref wi, .ref po])), (po, .inl (E.2 0, 10, .inl (fun _ => 0))), (of, .inr (2, [.ref g1, .ref g2, .ref g3, .ref g4, .ref g5, .int 0, .ref g6, .ref g7, .ref g8])), (g6, .inl (E.2 0, 4, .inl fc)), (tp, .inr (9, [.ref by_, .int 0]))] H := hP
  have hD : va_D A [(h0, .inr (11, [.ref tp, .ref rd, .ref se, .ref ba, .ref of, .ref pl, .ref sr, .ref sc, .int 0])), (ba, .inl (E.2 4, 6, .inr (.inr (.inr (.inr fb))))), (bo, .inr (0, [.ref sp, .ref pa, .int 0, .ref ru, .ref co, .ref tr])), (ru, .inr (7, [.ref u1, .ref u2, .ref u3, .ref u4, .int 0])), (co, .inr (1, [.ref bx, .int 0, .int 0, .int 9, .int 0])), (se, .inr (8, [.ref wi, .ref po])), (po, .inl (E.2 0, 10, .inl (fun _ => 0))), (of, .inr (2, [.ref g1, .ref g2, .ref g3, .ref g4, .ref g5, .int 0, .ref g6, .ref g7, .ref g8])), (g6, .inl (E.2 0, 4, .inl fc)), (tp, .inr (9, [.ref by_, .int 0]))] := hD
  refine lv_if_eq (tgt := 27) hx hb dX11_count_8 (by decide) (fun c3 => ?_) (fun c3 => ?_)
  · have b4 : inR what 10 15 = false := bz hw2 c3
    refine lv_iload_n hx hb dX11_count_27 rfl (lv_at hl 1 rfl) ?_
    refine lv_bipush (v := 20) hx hb dX11_count_28 (by decide) ?_
    refine lv_bipush (v := 25) hx hb dX11_count_30 (by decide) ?_
    have hPc := hP.sub (ws' := []) [] rfl
    have hDc := hD.sub (ws' := []) [] (by decide) rfl
    have hFc := va_free (wc := []) hD hS hA [] rfl
    refine va_calli (va_runS (As := [.int what, .int 20, .int 25]) (rest := []) ⟨hx, hb, hml, hown, hts⟩ (c_X11_within l E what 20 25 H.size ) (va_cwS 3 hts gX11_count_X11_within rfl rfl rfl (by decide +kernel) ⟨Nat.le_of_ble_eq_true rfl, Nat.le_of_ble_eq_true rfl⟩) ⟨pcW_blind, (pcW_pre hPc hkn hDc hst hS hFc)⟩ rfl rfl hl.1 rfl (lv_room (Nat.le_of_ble_eq_true rfl)) dX11_count_32 ⟨Nat.le_of_ble_eq_true rfl, Nat.le_of_ble_eq_true rfl⟩) hS (fun q _ h => hFc q h) hFc (fun r5 u t H1 locs ht hvm hw6 hB hz1 hk1 hS => ?_)
    obtain ⟨hP1, hD1⟩ := hB
    rw [ht] at hP1
    try dsimp only at hw6
    obtain ⟨hP, hD⟩ := va_join (wr := [(h0, .inr (11, [.ref tp, .ref rd, .ref se, .ref ba, .ref of, .ref pl, .ref sr, .ref sc, .int 0])), (ba, .inl (E.2 4, 6, .inr (.inr (.inr (.inr fb))))), (bo, .inr (0, [.ref sp, .ref pa, .int 0, .ref ru, .ref co, .ref tr])), (ru, .inr (7, [.ref u1, .ref u2, .ref u3, .ref u4, .int 0])), (co, .inr (1, [.ref bx, .int 0, .int 0, .int 9, .int 0])), (se, .inr (8, [.ref wi, .ref po])), (po, .inl (E.2 0, 10, .inl (fun _ => 0))), (of, .inr (2, [.ref g1, .ref g2, .ref g3, .ref g4, .ref g5, .int 0, .ref g6, .ref g7, .ref g8])), (g6, .inl (E.2 0, 4, .inl fc)), (tp, .inr (9, [.ref by_, .int 0]))]) (w1 := []) hP hD [] [0, 1, 2, 3, 4, 5, 6, 7, 8, 9] rfl rfl (by decide) (by decide) hk1 hFc hP1 hD1
    generalize H1 = H at hP hS ⊢
    have hP : va_P E.1 vwCl [(h0, .inr (11, [.ref tp, .ref rd, .ref se, .ref ba, .ref of, .ref pl, .ref sr, .ref sc, .int 0])), (ba, .inl (E.2 4, 6, .inr (.inr (.inr (.inr fb))))), (bo, .inr (0, [.ref sp, .ref pa, .int 0, .ref ru, .ref co, .ref tr])), (ru, .inr (7, [.ref u1, .ref u2, .ref u3, .ref u4, .int 0])), (co, .inr (1, [.ref bx, .int 0, .int 0, .int 9, .int 0])), (se, .inr (8, [.ref wi, .ref po])), (po, .inl (E.2 0, 10, .inl (fun _ => 0))), (of, .inr (2, [.ref g1, .ref g2, .ref g3, .ref g4, .ref g5, .int 0, .ref g6, .ref g7, .ref g8])), (g6, .inl (E.2 0, 4, .inl fc)), (tp, .inr (9, [.ref by_, .int 0]))] H := hP
    have hD : va_D A [(h0, .inr (11, [.ref tp, .ref rd, .ref se, .ref ba, .ref of, .ref pl, .ref sr, .ref sc, .int 0])), (ba, .inl (E.2 4, 6, .inr (.inr (.inr (.inr fb))))), (bo, .inr (0, [.ref sp, .ref pa, .int 0, .ref ru, .ref co, .ref tr])), (ru, .inr (7, [.ref u1, .ref u2, .ref u3, .ref u4, .int 0])), (co, .inr (1, [.ref bx, .int 0, .int 0, .int 9, .int 0])), (se, .inr (8, [.ref wi, .ref po])), (po, .inl (E.2 0, 10, .inl (fun _ => 0))), (of, .inr (2, [.ref g1, .ref g2, .ref g3, .ref g4, .ref g5, .int 0, .ref g6, .ref g7, .ref g8])), (g6, .inl (E.2 0, 4, .inl fc)), (tp, .inr (9, [.ref by_, .int 0]))] := hD
    refine lv_if_eq (tgt := 54) hx hb dX11_count_35 (by decide) (fun c7 => ?_) (fun c7 => ?_)
    · have b8 : inR what 20 25 = false := bz hw6 c7
      refine lv_iload_n hx hb dX11_count_54 rfl (lv_at hl 1 rfl) ?_
      refine lv_bipush (v := 30) hx hb dX11_count_55 (by decide) ?_
      refine lv_bipush (v := 39) hx hb dX11_count_57 (by decide) ?_
      have hPc := hP.sub (ws' := []) [] rfl
      have hDc := hD.sub (ws' := []) [] (by decide) rfl
      have hFc := va_free (wc := []) hD hS hA [] rfl
      refine va_calli (va_runS (As := [.int what, .int 30, .int 39]) (rest := []) ⟨hx, hb, hml, hown, hts⟩ (c_X11_within l E what 30 39 H.size ) (va_cwS 3 hts gX11_count_X11_within rfl rfl rfl (by decide +kernel) ⟨Nat.le_of_ble_eq_true rfl, Nat.le_of_ble_eq_true rfl⟩) ⟨pcW_blind, (pcW_pre hPc hkn hDc hst hS hFc)⟩ rfl rfl hl.1 rfl (lv_room (Nat.le_of_ble_eq_true rfl)) dX11_count_59 ⟨Nat.le_of_ble_eq_true rfl, Nat.le_of_ble_eq_true rfl⟩) hS (fun q _ h => hFc q h) hFc (fun r9 u t H1 locs ht hvm hw10 hB hz1 hk1 hS => ?_)
      obtain ⟨hP1, hD1⟩ := hB
      rw [ht] at hP1
      try dsimp only at hw10
      obtain ⟨hP, hD⟩ := va_join (wr := [(h0, .inr (11, [.ref tp, .ref rd, .ref se, .ref ba, .ref of, .ref pl, .ref sr, .ref sc, .int 0])), (ba, .inl (E.2 4, 6, .inr (.inr (.inr (.inr fb))))), (bo, .inr (0, [.ref sp, .ref pa, .int 0, .ref ru, .ref co, .ref tr])), (ru, .inr (7, [.ref u1, .ref u2, .ref u3, .ref u4, .int 0])), (co, .inr (1, [.ref bx, .int 0, .int 0, .int 9, .int 0])), (se, .inr (8, [.ref wi, .ref po])), (po, .inl (E.2 0, 10, .inl (fun _ => 0))), (of, .inr (2, [.ref g1, .ref g2, .ref g3, .ref g4, .ref g5, .int 0, .ref g6, .ref g7, .ref g8])), (g6, .inl (E.2 0, 4, .inl fc)), (tp, .inr (9, [.ref by_, .int 0]))]) (w1 := []) hP hD [] [0, 1, 2, 3, 4, 5, 6, 7, 8, 9] rfl rfl (by decide) (by decide) hk1 hFc hP1 hD1
      generalize H1 = H at hP hS ⊢
      have hP : va_P E.1 vwCl [(h0, .inr (11, [.ref tp, .ref rd, .ref se, .ref ba, .ref of, .ref pl, .ref sr, .ref sc, .int 0])), (ba, .inl (E.2 4, 6, .inr (.inr (.inr (.inr fb))))), (bo, .inr (0, [.ref sp, .ref pa, .int 0, .ref ru, .ref co, .ref tr])), (ru, .inr (7, [.ref u1, .ref u2, .ref u3, .ref u4, .int 0])), (co, .inr (1, [.ref bx, .int 0, .int 0, .int 9, .int 0])), (se, .inr (8, [.ref wi, .ref po])), (po, .inl (E.2 0, 10, .inl (fun _ => 0))), (of, .inr (2, [.ref g1, .ref g2, .ref g3, .ref g4, .ref g5, .int 0, .ref g6, .ref g7, .ref g8])), (g6, .inl (E.2 0, 4, .inl fc)), (tp, .inr (9, [.ref by_, .int 0]))] H := hP
      have hD : va_D A [(h0, .inr (11, [.ref tp, .ref rd, .ref se, .ref ba, .ref of, .ref pl, .ref sr, .ref sc, .int 0])), (ba, .inl (E.2 4, 6, .inr (.inr (.inr (.inr fb))))), (bo, .inr (0, [.ref sp, .ref pa, .int 0, .ref ru, .ref co, .ref tr])), (ru, .inr (7, [.ref u1, .ref u2, .ref u3, .ref u4, .int 0])), (co, .inr (1, [.ref bx, .int 0, .int 0, .int 9, .int 0])), (se, .inr (8, [.ref wi, .ref po])), (po, .inl (E.2 0, 10, .inl (fun _ => 0))), (of, .inr (2, [.ref g1, .ref g2, .ref g3, .ref g4, .ref g5, .int 0, .ref g6, .ref g7, .ref g8])), (g6, .inl (E.2 0, 4, .inl fc)), (tp, .inr (9, [.ref by_, .int 0]))] := hD
      refine lv_if_eq (tgt := 78) hx hb dX11_count_62 (by decide) (fun c11 => ?_) (fun c11 => ?_)
      · have b12 : inR what 30 39 = false := bz hw10 c11
        refine lv_iload_n hx hb dX11_count_78 rfl (lv_at hl 1 rfl) ?_
        by_cases c13 : what = 0
        · refine lv_tableIn (tgt := 108) hx hb dX11_count_79 (by rw [c13]; decide) (by rw [c13]; decide) (off := 29) (by rw [c13]; rfl) (by decide) ?_
          refine lv_aload_n hx hb dX11_count_108 rfl (lv_at hl 0 rfl) ?_
          refine va_get (D := E.1) (ci := 11) (v := .int 0) (C := RX11) (T := TX11) (N := 9) hx hb hts inX11 hown hK hP 0 rfl rfl 8 (by decide) fl69 (fun _ h9 => h9) rfl dX11_count_109 ?_
          have hP9 := hP.sub (ws' := []) [] rfl
          have hD9 := hD.sub (ws' := []) [] (by decide) rfl
          exact W.iret (v := 0) hx hb hr (fun t ht hW => ⟨⟨0, (), rfl, (by unfold countS; first | (rw [b4, b8, b12, decide_eq_true c13]; done) | (rw [b4, b8, b12, decide_eq_true c13]; rfl)), by rw [ht]; exact hP9, hD9⟩, hS.F ht⟩) hS.2.2 dX11_count_112
        by_cases c14 : what = 1
        · refine lv_tableIn (tgt := 113) hx hb dX11_count_79 (by rw [c14]; decide) (by rw [c14]; decide) (off := 34) (by rw [c14]; rfl) (by decide) ?_
          refine lv_aload_n hx hb dX11_count_113 rfl (lv_at hl 0 rfl) ?_
          refine va_get (D := E.1) (ci := 11) (v := .ref of) (C := RX11) (T := TX11) (N := 9) hx hb hts inX11 hown hK hP 0 rfl rfl 4 (by decide) fl42 (fun _ h9 => h9) rfl dX11_count_114 ?_
          refine va_get (D := E.1) (ci := 2) (v := .int 0) (C := RX2) (T := TX2) (N := 9) hx hb hts inX2 hown hK hP 7 rfl rfl 5 (by decide) fl197 (fun _ h9 => h9) rfl dX11_count_117 ?_
          have hP9 := hP.sub (ws' := []) [] rfl
          have hD9 := hD.sub (ws' := []) [] (by decide) rfl
          exact W.iret (v := 0) hx hb hr (fun t ht hW => ⟨⟨0, (), rfl, (by unfold countS; first | (rw [b4, b8, b12, decide_eq_false c13, decide_eq_true c14]; done) | (rw [b4, b8, b12, decide_eq_false c13, decide_eq_true c14]; rfl)), by rw [ht]; exact hP9, hD9⟩, hS.F ht⟩) hS.2.2 dX11_count_120
        by_cases c15 : what = 2
        · refine lv_tableIn (tgt := 121) hx hb dX11_count_79 (by rw [c15]; decide) (by rw [c15]; decide) (off := 42) (by rw [c15]; rfl) (by decide) ?_
          refine lv_aload_n hx hb dX11_count_121 rfl (lv_at hl 0 rfl) ?_
          refine va_get (D := E.1) (ci := 11) (v := .ref of) (C := RX11) (T := TX11) (N := 9) hx hb hts inX11 hown hK hP 0 rfl rfl 4 (by decide) fl42 (fun _ h9 => h9) rfl dX11_count_122 ?_
          have hPc := hP.sub (ws' := [(of, .inr (2, [.ref g1, .ref g2, .ref g3, .ref g4, .ref g5, .int 0, .ref g6, .ref g7, .ref g8])), (g6, .inl (E.2 0, 4, .inl fc))]) [7, 8] rfl
          have hDc := hD.sub (ws' := [(of, .inr (2, [.ref g1, .ref g2, .ref g3, .ref g4, .ref g5, .int 0, .ref g6, .ref g7, .ref g8])), (g6, .inl (E.2 0, 4, .inl fc))]) [7, 8] (by decide) rfl
          have hFc := va_free (wc := [(of, .inr (2, [.ref g1, .ref g2, .ref g3, .ref g4, .ref g5, .int 0, .ref g6, .ref g7, .ref g8])), (g6, .inl (E.2 0, 4, .inl fc))]) hD hS hA [7, 8] rfl
          refine va_calli (va_runV (As := []) (rest := []) ⟨hx, hb, hml, hown, hts⟩ (c_X2_crewsTold l E of g1 g2 g3 g4 g5 g6 g7 g8 fc H.size hfc) (cwV 0 hts gX11_count_X2_crewsTold rfl rfl rfl (by decide +kernel) ⟨Nat.le_of_ble_eq_true rfl, Nat.le_of_ble_eq_true rfl⟩) ⟨pcW_blind, va_recv hK hPc (ci := 2) (q0 := 0) rfl rfl, (pcW_pre hPc hkn hDc hst hS hFc)⟩ rfl rfl hl.1 rfl (lv_room (Nat.le_of_ble_eq_true rfl)) dX11_count_125 ⟨Nat.le_of_ble_eq_true rfl, Nat.le_of_ble_eq_true rfl⟩) hS (fun q _ h => hFc q h) hFc (fun r16 u t H1 locs ht hvm hw17 hB hz1 hk1 hS => ?_)
          obtain ⟨hP1, hD1⟩ := hB
          rw [ht] at hP1
          try dsimp only at hw17
          obtain ⟨hP, hD⟩ := va_join (wr := [(h0, .inr (11, [.ref tp, .ref rd, .ref se, .ref ba, .ref of, .ref pl, .ref sr, .ref sc, .int 0])), (ba, .inl (E.2 4, 6, .inr (.inr (.inr (.inr fb))))), (bo, .inr (0, [.ref sp, .ref pa, .int 0, .ref ru, .ref co, .ref tr])), (ru, .inr (7, [.ref u1, .ref u2, .ref u3, .ref u4, .int 0])), (co, .inr (1, [.ref bx, .int 0, .int 0, .int 9, .int 0])), (se, .inr (8, [.ref wi, .ref po])), (po, .inl (E.2 0, 10, .inl (fun _ => 0))), (tp, .inr (9, [.ref by_, .int 0]))]) (w1 := []) hP hD [7, 8] [0, 1, 2, 3, 4, 5, 6, 9] rfl rfl (by decide) (by decide) hk1 hFc hP1 hD1
          generalize H1 = H at hP hS ⊢
          have hP : va_P E.1 vwCl [(h0, .inr (11, [.ref tp, .ref rd, .ref se, .ref ba, .ref of, .ref pl, .ref sr, .ref sc, .int 0])), (ba, .inl (E.2 4, 6, .inr (.inr (.inr (.inr fb))))), (bo, .inr (0, [.ref sp, .ref pa, .int 0, .ref ru, .ref co, .ref tr])), (ru, .inr (7, [.ref u1, .ref u2, .ref u3, .ref u4, .int 0])), (co, .inr (1, [.ref bx, .int 0, .int 0, .int 9, .int 0])), (se, .inr (8, [.ref wi, .ref po])), (po, .inl (E.2 0, 10, .inl (fun _ => 0))), (tp, .inr (9, [.ref by_, .int 0]))] H := hP
          have hD : va_D A [(h0, .inr (11, [.ref tp, .ref rd, .ref se, .ref ba, .ref of, .ref pl, .ref sr, .ref sc, .int 0])), (ba, .inl (E.2 4, 6, .inr (.inr (.inr (.inr fb))))), (bo, .inr (0, [.ref sp, .ref pa, .int 0, .ref ru, .ref co, .ref tr])), (ru, .inr (7, [.ref u1, .ref u2, .ref u3, .ref u4, .int 0])), (co, .inr (1, [.ref bx, .int 0, .int 0, .int 9, .int 0])), (se, .inr (8, [.ref wi, .ref po])), (po, .inl (E.2 0, 10, .inl (fun _ => 0))), (tp, .inr (9, [.ref by_, .int 0]))] := hD
          obtain rfl : r16 = 0 := hw17
          have hP9 := hP.sub (ws' := []) [] rfl
          have hD9 := hD.sub (ws' := []) [] (by decide) rfl
          exact W.iret (v := 0) hx hb hr (fun t ht hW => ⟨⟨0, (), rfl, (by unfold countS; first | (rw [b4, b8, b12, decide_eq_false c13, decide_eq_false c14, decide_eq_true c15]; done) | (rw [b4, b8, b12, decide_eq_false c13, decide_eq_false c14, decide_eq_true c15]; rfl)), by rw [ht]; exact hP9, hD9⟩, hS.F ht⟩) hS.2.2 dX11_count_128
        by_cases c18 : what = 3
        · refine lv_tableIn (tgt := 129) hx hb dX11_count_79 (by rw [c18]; decide) (by rw [c18]; decide) (off := 50) (by rw [c18]; rfl) (by decide) ?_
          refine lv_aload_n hx hb dX11_count_129 rfl (lv_at hl 0 rfl) ?_
          refine va_get (D := E.1) (ci := 11) (v := .ref tp) (C := RX11) (T := TX11) (N := 9) hx hb hts inX11 hown hK hP 0 rfl rfl 0 (by decide) fl10 (fun _ h9 => h9) rfl dX11_count_130 ?_
          refine va_get (D := E.1) (ci := 9) (v := .int 0) (C := RX9) (T := TX9) (N := 2) hx hb hts inX9 hown hK hP 9 rfl rfl 1 (by decide) fl73 (fun _ h9 => h9) rfl dX11_count_133 ?_
          have hP9 := hP.sub (ws' := []) [] rfl
          have hD9 := hD.sub (ws' := []) [] (by decide) rfl
          exact W.iret (v := 0) hx hb hr (fun t ht hW => ⟨⟨0, (), rfl, (by unfold countS; first | (rw [b4, b8, b12, decide_eq_false c13, decide_eq_false c14, decide_eq_false c15, decide_eq_true c18]; done) | (rw [b4, b8, b12, decide_eq_false c13, decide_eq_false c14, decide_eq_false c15, decide_eq_true c18]; rfl)), by rw [ht]; exact hP9, hD9⟩, hS.F ht⟩) hS.2.2 dX11_count_136
        refine lv_tableOut (tgt := 137) hx hb dX11_count_79 (by have g0 : ¬ what.toInt = 0 := fun h => c13 (Int32.toInt_inj.mp (h.trans (by decide))); have g1 : ¬ what.toInt = 1 := fun h => c14 (Int32.toInt_inj.mp (h.trans (by decide))); have g2 : ¬ what.toInt = 2 := fun h => c15 (Int32.toInt_inj.mp (h.trans (by decide))); have g3 : ¬ what.toInt = 3 := fun h => c18 (Int32.toInt_inj.mp (h.trans (by decide))); omega) (by decide) ?_
        refine lv_iconst (v := (-1)) hx hb dX11_count_137 (by decide) ?_
        have hP9 := hP.sub (ws' := []) [] rfl
        have hD9 := hD.sub (ws' := []) [] (by decide) rfl
        exact W.iret (v := (-1)) hx hb hr (fun t ht hW => ⟨⟨(-1), (), rfl, (by unfold countS; first | (rw [b4, b8, b12, decide_eq_false c13, decide_eq_false c14, decide_eq_false c15, decide_eq_false c18]; done) | (rw [b4, b8, b12, decide_eq_false c13, decide_eq_false c14, decide_eq_false c15, decide_eq_false c18]; rfl)), by rw [ht]; exact hP9, hD9⟩, hS.F ht⟩) hS.2.2 dX11_count_138
      · have b19 : inR what 30 39 = true := bn hw10 c11
        refine lv_aload_n hx hb dX11_count_65 rfl (lv_at hl 0 rfl) ?_
        refine va_get (D := E.1) (ci := 11) (v := .ref se) (C := RX11) (T := TX11) (N := 9) hx hb hts inX11 hown hK hP 0 rfl rfl 2 (by decide) fl28 (fun _ h9 => h9) rfl dX11_count_66 ?_
        refine va_get (D := E.1) (ci := 8) (v := .ref po) (C := RX8) (T := TX8) (N := 2) hx hb hts inX8 hown hK hP 5 rfl rfl 1 (by decide) fl96 (fun _ h9 => h9) rfl dX11_count_69 ?_
        refine lv_iload_n hx hb dX11_count_72 rfl (lv_at hl 1 rfl) ?_
        refine lv_bipush (v := 30) hx hb dX11_count_73 (by decide) ?_
        refine lv_isub hx hb dX11_count_75 ?_
        refine lv_topi (fun x20 ex20 => ?_)
        have hs21 : vp_in x20 10 := by rw [ex20]; exact (ixS b19 (a := 30) rfl (b := 39) (by decide) (by decide) (by decide) (by decide)).1
        refine va_iald hx hb hK hP 6 0 rfl rfl hs21 dX11_count_76 ?_
        have hP9 := hP.sub (ws' := []) [] rfl
        have hD9 := hD.sub (ws' := []) [] (by decide) rfl
        exact W.iret (v := 0) hx hb hr (fun t ht hW => ⟨⟨0, (), rfl, (by unfold countS; first | (rw [b4, b8, b19]; done) | (rw [b4, b8, b19]; rfl)), by rw [ht]; exact hP9, hD9⟩, hS.F ht⟩) hS.2.2 dX11_count_77
    · have b22 : inR what 20 25 = true := bn hw6 c7
      refine lv_aload_n hx hb dX11_count_38 rfl (lv_at hl 0 rfl) ?_
      refine va_get (D := E.1) (ci := 11) (v := .ref ba) (C := RX11) (T := TX11) (N := 9) hx hb hts inX11 hown hK hP 0 rfl rfl 3 (by decide) fl34 (fun _ h9 => h9) rfl dX11_count_39 ?_
      refine lv_iload_n hx hb dX11_count_42 rfl (lv_at hl 1 rfl) ?_
      refine lv_bipush (v := 20) hx hb dX11_count_43 (by decide) ?_
      refine lv_isub hx hb dX11_count_45 ?_
      refine lv_topi (fun x23 ex23 => ?_)
      have hs24 : vp_in x23 6 := by rw [ex23]; exact (ixS b22 (a := 20) rfl (b := 25) (by decide) (by decide) (by decide) (by decide)).1
      refine va_aldq hx hb hK hP 1 4 rfl rfl hs24 dX11_count_46 ?_
      rw [show va_rf (fb x23.toNatClampNeg) = .ref bo from by rw [(show fb (Int32.toNatClampNeg x23) = some bo from by rw [ex23]; exact hfb20 b22)]; rfl]
      refine va_get (D := E.1) (ci := 0) (v := .ref co) (C := RX0) (T := TX0) (N := 6) hx hb hts inX0 hown hK hP 2 rfl rfl 4 (by decide) fl128 (fun _ h9 => h9) rfl dX11_count_47 ?_
      refine va_get (D := E.1) (ci := 1) (v := .int 0) (C := RX1) (T := TX1) (N := 5) hx hb hts inX1 hown hK hP 4 rfl rfl 1 (by decide) fl230 (fun _ h9 => h9) rfl dX11_count_50 ?_
      have hP9 := hP.sub (ws' := []) [] rfl
      have hD9 := hD.sub (ws' := []) [] (by decide) rfl
      exact W.iret (v := 0) hx hb hr (fun t ht hW => ⟨⟨0, (), rfl, (by unfold countS; first | (rw [b4, b22]; done) | (rw [b4, b22]; rfl)), by rw [ht]; exact hP9, hD9⟩, hS.F ht⟩) hS.2.2 dX11_count_53
  · have b25 : inR what 10 15 = true := bn hw2 c3
    refine lv_aload_n hx hb dX11_count_11 rfl (lv_at hl 0 rfl) ?_
    refine va_get (D := E.1) (ci := 11) (v := .ref ba) (C := RX11) (T := TX11) (N := 9) hx hb hts inX11 hown hK hP 0 rfl rfl 3 (by decide) fl34 (fun _ h9 => h9) rfl dX11_count_12 ?_
    refine lv_iload_n hx hb dX11_count_15 rfl (lv_at hl 1 rfl) ?_
    refine lv_bipush (v := 10) hx hb dX11_count_16 (by decide) ?_
    refine lv_isub hx hb dX11_count_18 ?_
    refine lv_topi (fun x26 ex26 => ?_)
    have hs27 : vp_in x26 6 := by rw [ex26]; exact (ixS b25 (a := 10) rfl (b := 15) (by decide) (by decide) (by decide) (by decide)).1
    refine va_aldq hx hb hK hP 1 4 rfl rfl hs27 dX11_count_19 ?_
    rw [show va_rf (fb x26.toNatClampNeg) = .ref bo from by rw [(show fb (Int32.toNatClampNeg x26) = some bo from by rw [ex26]; exact hfb10 b25)]; rfl]
    refine va_get (D := E.1) (ci := 0) (v := .ref ru) (C := RX0) (T := TX0) (N := 6) hx hb hts inX0 hown hK hP 2 rfl rfl 3 (by decide) fl118 (fun _ h9 => h9) rfl dX11_count_20 ?_
    refine va_get (D := E.1) (ci := 7) (v := .int 0) (C := RX7) (T := TX7) (N := 5) hx hb hts inX7 hown hK hP 3 rfl rfl 4 (by decide) fl121 (fun _ h9 => h9) rfl dX11_count_23 ?_
    have hP9 := hP.sub (ws' := []) [] rfl
    have hD9 := hD.sub (ws' := []) [] (by decide) rfl
    exact W.iret (v := 0) hx hb hr (fun t ht hW => ⟨⟨0, (), rfl, (by unfold countS; first | (rw [b25]; done) | (rw [b25]; rfl)), by rw [ht]; exact hP9, hD9⟩, hS.F ht⟩) hS.2.2 dX11_count_26
