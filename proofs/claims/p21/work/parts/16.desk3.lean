set_option maxHeartbeats 4000000 in
set_option maxRecDepth 100000 in
theorem c_X9_append (l : Launch) (E : vE) (h0 : Nat) (by_ : Nat) (ln : Nat) (four : Int32) (f : Nat → Int32) (sz : Nat) (hln : ln + 4 ≤ 800) : Met l yX9_append wsX9_append ({ frames := 0, cells := 0, slots := 0, locals := 0 }) (pcW E [.ref h0, .int four] sz [(h0, .inr (9, [.ref by_, .int (nI ln)])), (by_, .inl (E.2.1 0, 800, .inl f))]) (va_Qv (fun (f2 : (Nat → Int32)) => True) (fun (f2 : (Nat → Int32)) (t : State) => wB E (va_A [(h0, .inr (9, [.ref by_, .int (nI ln)])), (by_, .inl (E.2.1 0, 800, .inl f))] sz) [(h0, .inr (9, [.ref by_, .int (nI (ln + 4))])), (by_, .inl (E.2.1 0, 800, .inl f2))] t) (va_A [(h0, .inr (9, [.ref by_, .int (nI ln)])), (by_, .inl (E.2.1 0, 800, .inl f))] sz)) 0 0 (va_A [(h0, .inr (9, [.ref by_, .int (nI ln)])), (by_, .inl (E.2.1 0, 800, .inl f))] sz) := by
  refine Met.ofW (cc := cX9_append) (maxL := 3) (ret := none) (by decide) rfl ?_
  intro p e s m args below meth c s₁ B hml hv
  obtain ⟨rfl, hsz, hP, hkn, hD0, hst⟩ := hv
  have hx := B.exec
  have hb := B.bytes
  have hr := B.returns
  have hts := atoms_spec (ws := wsX9_append) B.pre
  have hown : s.vm.findClass RX9 = some m.cls := findClass_of_methodNamed B.named
  have hlocks := B.notSynchronized
  subst hsz
  have hD := hD0.self (sz := s.heap.size)
  have hK := hkn.1
  have hAO := hkn.2.2.1
  generalize hAe : va_A [(h0, .inr (9, [.ref by_, .int (nI ln)])), (by_, .inl (E.2.1 0, 800, .inl f))] s.heap.size = A at hD hst ⊢
  have hA : ∀ q : Nat, s.heap.size ≤ q → A q := fun q h => by rw [← hAe]; exact Or.inr h
  have hS : va_S A s.heap s.heap [] := va_S.rf
  have hP : va_P E.1 vwCl [(h0, .inr (9, [.ref by_, .int (nI ln)])), (by_, .inl (E.2.1 0, 800, .inl f))] s.heap := hP
  have hl := lv_entry ([.ref h0, .int four]) (n := 3) (Nat.le_of_ble_eq_true rfl)
  rw [lg_entry_eq]
  generalize (lg_sl ([.ref h0, .int four]) ++ List.replicate (3 - (lg_sl ([.ref h0, .int four])).length) Slot.unset).toArray = ls at hl ⊢
  have hl : lv_has ls 3 [(0, .ref h0), (1, .int four)] := hl
  have fl9 := hts (.fieldLink RX9 9 "BoatsHome$Tape" "bytes" "[I") (by first | exact List.mem_of_getElem? (i := 2) rfl | decide +kernel)
  have fl15 := hts (.fieldLink RX9 15 "BoatsHome$Tape" "length" "I") (by first | exact List.mem_of_getElem? (i := 1) rfl | decide +kernel)
  have inX9 : ∀ w ∈ u_ws RX9 TX9 2, w ∈ wsX9_append := by first | exact fun w h9 => (List.mem_cons_of_mem _ (List.mem_append_right _ h9)) | decide +kernel
  refine lv_bipush (v := 24) hx hb dX9_append_0 (by decide) ?_
  refine lv_istore_n (lv' := [(2, .int 24), (0, .ref h0), (1, .int four)]) hx hb dX9_append_2 rfl hl (by decide) rfl (fun ls hl => ?_)
  refine lv_iload_n hx hb dX9_append_3 rfl (lv_at hl 0 rfl) ?_
  refine lv_if_lt (tgt := 49) hx hb dX9_append_4 (by decide) (fun c9 => absurd c9 (by decide)) (fun _ => ?_)
  refine lv_aload_n hx hb dX9_append_7 rfl (lv_at hl 1 rfl) ?_
  refine va_get (D := E.1) (ci := 9) (v := .int (nI ln)) (C := RX9) (T := TX9) (N := 2) hx hb hts inX9 hown hK hP 0 rfl rfl 1 (by decide) fl15 (fun _ h9 => h9) rfl dX9_append_8 ?_
  refine lv_sipush (v := 800) hx hb dX9_append_11 (by decide) ?_
  refine lv_icmp_ge (tgt := 49) hx hb dX9_append_14 (by decide) (fun c9 => absurd c9 (nI_ge (b := 800) (by omega) (by decide))) (fun c9 => ?_)
  refine lv_aload_n hx hb dX9_append_17 rfl (lv_at hl 1 rfl) ?_
  refine va_get (D := E.1) (ci := 9) (v := .ref by_) (C := RX9) (T := TX9) (N := 2) hx hb hts inX9 hown hK hP 0 rfl rfl 0 (by decide) fl9 (fun _ h9 => h9) rfl dX9_append_18 ?_
  refine lv_aload_n hx hb dX9_append_21 rfl (lv_at hl 1 rfl) ?_
  refine va_get (D := E.1) (ci := 9) (v := .int (nI ln)) (C := RX9) (T := TX9) (N := 2) hx hb hts inX9 hown hK hP 0 rfl rfl 1 (by decide) fl15 (fun _ h9 => h9) rfl dX9_append_22 ?_
  refine lv_iload_n hx hb dX9_append_25 rfl (lv_at hl 2 rfl) ?_
  refine lv_iload_n hx hb dX9_append_26 rfl (lv_at hl 0 rfl) ?_
  refine lv_iushr hx hb dX9_append_27 rfl ?_
  refine lv_topi (fun x_1 ex_1 => ?_)
  refine lv_sipush (v := 255) hx hb dX9_append_28 (by decide) ?_
  refine lv_iand hx hb dX9_append_31 ?_
  refine lv_topi (fun x_2 ex_2 => ?_)
  have hi_3 : vp_in (nI ln) 800 := vp_in_nI (by omega) (by decide)
  refine va_iast hx hb hK hP hD hS 1 0 rfl rfl hi_3 dX9_append_32 (fun H locs hP hD hS => ?_)
  have hP : va_P E.1 vwCl [(h0, .inr (9, [.ref by_, .int (nI ln)])), (by_, .inl (E.2.1 0, 800, .inl (upd f (nI ln).toNatClampNeg x_2)))] H := hP
  have hD : va_D A [(h0, .inr (9, [.ref by_, .int (nI ln)])), (by_, .inl (E.2.1 0, 800, .inl (upd f (nI ln).toNatClampNeg x_2)))] := hD
  obtain ⟨f_4, ef_4⟩ : ∃ g : Nat → Int32, g = upd f (nI ln).toNatClampNeg x_2 := ⟨_, rfl⟩
  rw [← ef_4] at hP hD
  refine lv_aload_n hx hb dX9_append_33 rfl (lv_at hl 1 rfl) ?_
  refine lv_dup hx hb dX9_append_34 rfl ?_
  refine va_get (D := E.1) (ci := 9) (v := .int (nI ln)) (C := RX9) (T := TX9) (N := 2) hx hb hts inX9 hown hK hP 0 rfl rfl 1 (by decide) fl15 (fun _ h9 => h9) rfl dX9_append_35 ?_
  refine lv_iconst (v := 1) hx hb dX9_append_38 (by decide) ?_
  refine lv_iadd hx hb dX9_append_39 ?_
  refine lv_topi (fun x_5 ex_5 => ?_)
  obtain rfl : x_5 = nI (ln + 1) := ex_5.trans (nI_1 _)
  refine va_put (D := E.1) (ci := 9) (v := .int (nI (ln + 1))) (ty := .int) (C := RX9) (T := TX9) (N := 2) hx hb hts inX9 tyX9 tyX9_ok nmX9 hown hK hP hD hS 0 rfl rfl 1 (by decide) fl15 (fun _ h9 => h9) rfl (by decide +kernel) rfl rfl (Nat.le_of_ble_eq_true rfl) dX9_append_40 (fun H locs hP hD hS => ?_)
  have hP : va_P E.1 vwCl [(h0, .inr (9, [.ref by_, .int (nI (ln + 1))])), (by_, .inl (E.2.1 0, 800, .inl f_4))] H := hP
  have hD : va_D A [(h0, .inr (9, [.ref by_, .int (nI (ln + 1))])), (by_, .inl (E.2.1 0, 800, .inl f_4))] := hD
  refine lv_iinc (v := 16) (lv' := [(2, .int 16), (0, .ref h0), (1, .int four)]) hx hb dX9_append_43 hl (k := 0) rfl (by decide) (by decide) rfl (fun ls hl => ?_)
  refine lv_goto (tgt := 3) hx hb dX9_append_46 (by decide) ?_
  refine lv_iload_n hx hb dX9_append_3 rfl (lv_at hl 0 rfl) ?_
  refine lv_if_lt (tgt := 49) hx hb dX9_append_4 (by decide) (fun c9 => absurd c9 (by decide)) (fun _ => ?_)
  refine lv_aload_n hx hb dX9_append_7 rfl (lv_at hl 1 rfl) ?_
  refine va_get (D := E.1) (ci := 9) (v := .int (nI (ln + 1))) (C := RX9) (T := TX9) (N := 2) hx hb hts inX9 hown hK hP 0 rfl rfl 1 (by decide) fl15 (fun _ h9 => h9) rfl dX9_append_8 ?_
  refine lv_sipush (v := 800) hx hb dX9_append_11 (by decide) ?_
  refine lv_icmp_ge (tgt := 49) hx hb dX9_append_14 (by decide) (fun c9 => absurd c9 (nI_ge (b := 800) (by omega) (by decide))) (fun c9 => ?_)
  refine lv_aload_n hx hb dX9_append_17 rfl (lv_at hl 1 rfl) ?_
  refine va_get (D := E.1) (ci := 9) (v := .ref by_) (C := RX9) (T := TX9) (N := 2) hx hb hts inX9 hown hK hP 0 rfl rfl 0 (by decide) fl9 (fun _ h9 => h9) rfl dX9_append_18 ?_
  refine lv_aload_n hx hb dX9_append_21 rfl (lv_at hl 1 rfl) ?_
  refine va_get (D := E.1) (ci := 9) (v := .int (nI (ln + 1))) (C := RX9) (T := TX9) (N := 2) hx hb hts inX9 hown hK hP 0 rfl rfl 1 (by decide) fl15 (fun _ h9 => h9) rfl dX9_append_22 ?_
  refine lv_iload_n hx hb dX9_append_25 rfl (lv_at hl 2 rfl) ?_
  refine lv_iload_n hx hb dX9_append_26 rfl (lv_at hl 0 rfl) ?_
  refine lv_iushr hx hb dX9_append_27 rfl ?_
  refine lv_topi (fun x_6 ex_6 => ?_)
  refine lv_sipush (v := 255) hx hb dX9_append_28 (by decide) ?_
  refine lv_iand hx hb dX9_append_31 ?_
  refine lv_topi (fun x_7 ex_7 => ?_)
  have hi_8 : vp_in (nI (ln + 1)) 800 := vp_in_nI (by omega) (by decide)
  refine va_iast hx hb hK hP hD hS 1 0 rfl rfl hi_8 dX9_append_32 (fun H locs hP hD hS => ?_)
  have hP : va_P E.1 vwCl [(h0, .inr (9, [.ref by_, .int (nI (ln + 1))])), (by_, .inl (E.2.1 0, 800, .inl (upd f_4 (nI (ln + 1)).toNatClampNeg x_7)))] H := hP
  have hD : va_D A [(h0, .inr (9, [.ref by_, .int (nI (ln + 1))])), (by_, .inl (E.2.1 0, 800, .inl (upd f_4 (nI (ln + 1)).toNatClampNeg x_7)))] := hD
  obtain ⟨f_9, ef_9⟩ : ∃ g : Nat → Int32, g = upd f_4 (nI (ln + 1)).toNatClampNeg x_7 := ⟨_, rfl⟩
  rw [← ef_9] at hP hD
  refine lv_aload_n hx hb dX9_append_33 rfl (lv_at hl 1 rfl) ?_
  refine lv_dup hx hb dX9_append_34 rfl ?_
  refine va_get (D := E.1) (ci := 9) (v := .int (nI (ln + 1))) (C := RX9) (T := TX9) (N := 2) hx hb hts inX9 hown hK hP 0 rfl rfl 1 (by decide) fl15 (fun _ h9 => h9) rfl dX9_append_35 ?_
  refine lv_iconst (v := 1) hx hb dX9_append_38 (by decide) ?_
  refine lv_iadd hx hb dX9_append_39 ?_
  refine lv_topi (fun x_10 ex_10 => ?_)
  obtain rfl : x_10 = nI ((ln + 1) + 1) := ex_10.trans (nI_1 _)
  refine va_put (D := E.1) (ci := 9) (v := .int (nI ((ln + 1) + 1))) (ty := .int) (C := RX9) (T := TX9) (N := 2) hx hb hts inX9 tyX9 tyX9_ok nmX9 hown hK hP hD hS 0 rfl rfl 1 (by decide) fl15 (fun _ h9 => h9) rfl (by decide +kernel) rfl rfl (Nat.le_of_ble_eq_true rfl) dX9_append_40 (fun H locs hP hD hS => ?_)
  have hP : va_P E.1 vwCl [(h0, .inr (9, [.ref by_, .int (nI ((ln + 1) + 1))])), (by_, .inl (E.2.1 0, 800, .inl f_9))] H := hP
  have hD : va_D A [(h0, .inr (9, [.ref by_, .int (nI ((ln + 1) + 1))])), (by_, .inl (E.2.1 0, 800, .inl f_9))] := hD
  refine lv_iinc (v := 8) (lv' := [(2, .int 8), (0, .ref h0), (1, .int four)]) hx hb dX9_append_43 hl (k := 0) rfl (by decide) (by decide) rfl (fun ls hl => ?_)
  refine lv_goto (tgt := 3) hx hb dX9_append_46 (by decide) ?_
  refine lv_iload_n hx hb dX9_append_3 rfl (lv_at hl 0 rfl) ?_
  refine lv_if_lt (tgt := 49) hx hb dX9_append_4 (by decide) (fun c9 => absurd c9 (by decide)) (fun _ => ?_)
  refine lv_aload_n hx hb dX9_append_7 rfl (lv_at hl 1 rfl) ?_
  refine va_get (D := E.1) (ci := 9) (v := .int (nI ((ln + 1) + 1))) (C := RX9) (T := TX9) (N := 2) hx hb hts inX9 hown hK hP 0 rfl rfl 1 (by decide) fl15 (fun _ h9 => h9) rfl dX9_append_8 ?_
  refine lv_sipush (v := 800) hx hb dX9_append_11 (by decide) ?_
  refine lv_icmp_ge (tgt := 49) hx hb dX9_append_14 (by decide) (fun c9 => absurd c9 (nI_ge (b := 800) (by omega) (by decide))) (fun c9 => ?_)
  refine lv_aload_n hx hb dX9_append_17 rfl (lv_at hl 1 rfl) ?_
  refine va_get (D := E.1) (ci := 9) (v := .ref by_) (C := RX9) (T := TX9) (N := 2) hx hb hts inX9 hown hK hP 0 rfl rfl 0 (by decide) fl9 (fun _ h9 => h9) rfl dX9_append_18 ?_
  refine lv_aload_n hx hb dX9_append_21 rfl (lv_at hl 1 rfl) ?_
  refine va_get (D := E.1) (ci := 9) (v := .int (nI ((ln + 1) + 1))) (C := RX9) (T := TX9) (N := 2) hx hb hts inX9 hown hK hP 0 rfl rfl 1 (by decide) fl15 (fun _ h9 => h9) rfl dX9_append_22 ?_
  refine lv_iload_n hx hb dX9_append_25 rfl (lv_at hl 2 rfl) ?_
  refine lv_iload_n hx hb dX9_append_26 rfl (lv_at hl 0 rfl) ?_
  refine lv_iushr hx hb dX9_append_27 rfl ?_
  refine lv_topi (fun x_11 ex_11 => ?_)
  refine lv_sipush (v := 255) hx hb dX9_append_28 (by decide) ?_
  refine lv_iand hx hb dX9_append_31 ?_
  refine lv_topi (fun x_12 ex_12 => ?_)
  have hi_13 : vp_in (nI ((ln + 1) + 1)) 800 := vp_in_nI (by omega) (by decide)
  refine va_iast hx hb hK hP hD hS 1 0 rfl rfl hi_13 dX9_append_32 (fun H locs hP hD hS => ?_)
  have hP : va_P E.1 vwCl [(h0, .inr (9, [.ref by_, .int (nI ((ln + 1) + 1))])), (by_, .inl (E.2.1 0, 800, .inl (upd f_9 (nI ((ln + 1) + 1)).toNatClampNeg x_12)))] H := hP
  have hD : va_D A [(h0, .inr (9, [.ref by_, .int (nI ((ln + 1) + 1))])), (by_, .inl (E.2.1 0, 800, .inl (upd f_9 (nI ((ln + 1) + 1)).toNatClampNeg x_12)))] := hD
  obtain ⟨f_14, ef_14⟩ : ∃ g : Nat → Int32, g = upd f_9 (nI ((ln + 1) + 1)).toNatClampNeg x_12 := ⟨_, rfl⟩
  rw [← ef_14] at hP hD
  refine lv_aload_n hx hb dX9_append_33 rfl (lv_at hl 1 rfl) ?_
  refine lv_dup hx hb dX9_append_34 rfl ?_
  refine va_get (D := E.1) (ci := 9) (v := .int (nI ((ln + 1) + 1))) (C := RX9) (T := TX9) (N := 2) hx hb hts inX9 hown hK hP 0 rfl rfl 1 (by decide) fl15 (fun _ h9 => h9) rfl dX9_append_35 ?_
  refine lv_iconst (v := 1) hx hb dX9_append_38 (by decide) ?_
  refine lv_iadd hx hb dX9_append_39 ?_
  refine lv_topi (fun x_15 ex_15 => ?_)
  obtain rfl : x_15 = nI (((ln + 1) + 1) + 1) := ex_15.trans (nI_1 _)
  refine va_put (D := E.1) (ci := 9) (v := .int (nI (((ln + 1) + 1) + 1))) (ty := .int) (C := RX9) (T := TX9) (N := 2) hx hb hts inX9 tyX9 tyX9_ok nmX9 hown hK hP hD hS 0 rfl rfl 1 (by decide) fl15 (fun _ h9 => h9) rfl (by decide +kernel) rfl rfl (Nat.le_of_ble_eq_true rfl) dX9_append_40 (fun H locs hP hD hS => ?_)
  have hP : va_P E.1 vwCl [(h0, .inr (9, [.ref by_, .int (nI (((ln + 1) + 1) + 1))])), (by_, .inl (E.2.1 0, 800, .inl f_14))] H := hP
  have hD : va_D A [(h0, .inr (9, [.ref by_, .int (nI (((ln + 1) + 1) + 1))])), (by_, .inl (E.2.1 0, 800, .inl f_14))] := hD
  refine lv_iinc (v := 0) (lv' := [(2, .int 0), (0, .ref h0), (1, .int four)]) hx hb dX9_append_43 hl (k := 0) rfl (by decide) (by decide) rfl (fun ls hl => ?_)
  refine lv_goto (tgt := 3) hx hb dX9_append_46 (by decide) ?_
  refine lv_iload_n hx hb dX9_append_3 rfl (lv_at hl 0 rfl) ?_
  refine lv_if_lt (tgt := 49) hx hb dX9_append_4 (by decide) (fun c9 => absurd c9 (by decide)) (fun _ => ?_)
  refine lv_aload_n hx hb dX9_append_7 rfl (lv_at hl 1 rfl) ?_
  refine va_get (D := E.1) (ci := 9) (v := .int (nI (((ln + 1) + 1) + 1))) (C := RX9) (T := TX9) (N := 2) hx hb hts inX9 hown hK hP 0 rfl rfl 1 (by decide) fl15 (fun _ h9 => h9) rfl dX9_append_8 ?_
  refine lv_sipush (v := 800) hx hb dX9_append_11 (by decide) ?_
  refine lv_icmp_ge (tgt := 49) hx hb dX9_append_14 (by decide) (fun c9 => absurd c9 (nI_ge (b := 800) (by omega) (by decide))) (fun c9 => ?_)
  refine lv_aload_n hx hb dX9_append_17 rfl (lv_at hl 1 rfl) ?_
  refine va_get (D := E.1) (ci := 9) (v := .ref by_) (C := RX9) (T := TX9) (N := 2) hx hb hts inX9 hown hK hP 0 rfl rfl 0 (by decide) fl9 (fun _ h9 => h9) rfl dX9_append_18 ?_
  refine lv_aload_n hx hb dX9_append_21 rfl (lv_at hl 1 rfl) ?_
  refine va_get (D := E.1) (ci := 9) (v := .int (nI (((ln + 1) + 1) + 1))) (C := RX9) (T := TX9) (N := 2) hx hb hts inX9 hown hK hP 0 rfl rfl 1 (by decide) fl15 (fun _ h9 => h9) rfl dX9_append_22 ?_
  refine lv_iload_n hx hb dX9_append_25 rfl (lv_at hl 2 rfl) ?_
  refine lv_iload_n hx hb dX9_append_26 rfl (lv_at hl 0 rfl) ?_
  refine lv_iushr hx hb dX9_append_27 rfl ?_
  refine lv_topi (fun x_16 ex_16 => ?_)
  refine lv_sipush (v := 255) hx hb dX9_append_28 (by decide) ?_
  refine lv_iand hx hb dX9_append_31 ?_
  refine lv_topi (fun x_17 ex_17 => ?_)
  have hi_18 : vp_in (nI (((ln + 1) + 1) + 1)) 800 := vp_in_nI (by omega) (by decide)
  refine va_iast hx hb hK hP hD hS 1 0 rfl rfl hi_18 dX9_append_32 (fun H locs hP hD hS => ?_)
  have hP : va_P E.1 vwCl [(h0, .inr (9, [.ref by_, .int (nI (((ln + 1) + 1) + 1))])), (by_, .inl (E.2.1 0, 800, .inl (upd f_14 (nI (((ln + 1) + 1) + 1)).toNatClampNeg x_17)))] H := hP
  have hD : va_D A [(h0, .inr (9, [.ref by_, .int (nI (((ln + 1) + 1) + 1))])), (by_, .inl (E.2.1 0, 800, .inl (upd f_14 (nI (((ln + 1) + 1) + 1)).toNatClampNeg x_17)))] := hD
  obtain ⟨f_19, ef_19⟩ : ∃ g : Nat → Int32, g = upd f_14 (nI (((ln + 1) + 1) + 1)).toNatClampNeg x_17 := ⟨_, rfl⟩
  rw [← ef_19] at hP hD
  refine lv_aload_n hx hb dX9_append_33 rfl (lv_at hl 1 rfl) ?_
  refine lv_dup hx hb dX9_append_34 rfl ?_
  refine va_get (D := E.1) (ci := 9) (v := .int (nI (((ln + 1) + 1) + 1))) (C := RX9) (T := TX9) (N := 2) hx hb hts inX9 hown hK hP 0 rfl rfl 1 (by decide) fl15 (fun _ h9 => h9) rfl dX9_append_35 ?_
  refine lv_iconst (v := 1) hx hb dX9_append_38 (by decide) ?_
  refine lv_iadd hx hb dX9_append_39 ?_
  refine lv_topi (fun x_20 ex_20 => ?_)
  obtain rfl : x_20 = nI ((((ln + 1) + 1) + 1) + 1) := ex_20.trans (nI_1 _)
  refine va_put (D := E.1) (ci := 9) (v := .int (nI ((((ln + 1) + 1) + 1) + 1))) (ty := .int) (C := RX9) (T := TX9) (N := 2) hx hb hts inX9 tyX9 tyX9_ok nmX9 hown hK hP hD hS 0 rfl rfl 1 (by decide) fl15 (fun _ h9 => h9) rfl (by decide +kernel) rfl rfl (Nat.le_of_ble_eq_true rfl) dX9_append_40 (fun H locs hP hD hS => ?_)
  have hP : va_P E.1 vwCl [(h0, .inr (9, [.ref by_, .int (nI ((((ln + 1) + 1) + 1) + 1))])), (by_, .inl (E.2.1 0, 800, .inl f_19))] H := hP
  have hD : va_D A [(h0, .inr (9, [.ref by_, .int (nI ((((ln + 1) + 1) + 1) + 1))])), (by_, .inl (E.2.1 0, 800, .inl f_19))] := hD
  refine lv_iinc (v := (-8)) (lv' := [(2, .int (-8)), (0, .ref h0), (1, .int four)]) hx hb dX9_append_43 hl (k := 0) rfl (by decide) (by decide) rfl (fun ls hl => ?_)
  refine lv_goto (tgt := 3) hx hb dX9_append_46 (by decide) ?_
  refine lv_iload_n hx hb dX9_append_3 rfl (lv_at hl 0 rfl) ?_
  refine lv_if_lt (tgt := 49) hx hb dX9_append_4 (by decide) (fun _ => ?_) (fun c9 => absurd c9 (by decide))
  have hP9 := hP.sub (ws' := [(h0, .inr (9, [.ref by_, .int (nI ((((ln + 1) + 1) + 1) + 1))])), (by_, .inl (E.2.1 0, 800, .inl f_19))]) [0, 1] rfl
  have hD9 := hD.sub (ws' := [(h0, .inr (9, [.ref by_, .int (nI ((((ln + 1) + 1) + 1) + 1))])), (by_, .inl (E.2.1 0, 800, .inl f_19))]) [0, 1] (by decide) rfl
  exact W.vret hx hb hr (fun t ht hW => ⟨⟨f_19, rfl, trivial, by rw [ht]; exact hP9, hD9⟩, hS.F ht⟩) hS.2.2 dX9_append_49
set_option maxHeartbeats 4000000 in
set_option maxRecDepth 100000 in
theorem c_X11_feed (l : Launch) (E : vE) (h0 : Nat) (tp : Nat) (rd : Nat) (se : Nat) (ba : Nat) (of : Nat) (pl : Nat) (sr : Nat) (sc : Nat) (wk : Int32) (by_ : Nat) (ln : Nat) (a1 : Int32) (a2 : Int32) (a3 : Int32) (a4 : Int32) (a5 : Int32) (f : Nat → Int32) (sz : Nat) (hln : ln ≤ 800) : Met l yX11_feed wsX11_feed ({ frames := 1, cells := 0, slots := 0, locals := 22 }) (pcW E [.ref h0, .int a1, .int a2, .int a3, .int a4, .int a5] sz [(h0, .inr (11, [.ref tp, .ref rd, .ref se, .ref ba, .ref of, .ref pl, .ref sr, .ref sc, .int wk])), (tp, .inr (9, [.ref by_, .int (nI ln)])), (by_, .inl (E.2.1 0, 800, .inl f))]) (va_Qi (fun (r : Int32) (u : Nat × (Nat → Int32)) => match u with | (ln2, f2) => True) (fun (u : Nat × (Nat → Int32)) (t : State) => match u with | (ln2, f2) => (ln2 ≤ 800) ∧ wB E (va_A [(h0, .inr (11, [.ref tp, .ref rd, .ref se, .ref ba, .ref of, .ref pl, .ref sr, .ref sc, .int wk])), (tp, .inr (9, [.ref by_, .int (nI ln)])), (by_, .inl (E.2.1 0, 800, .inl f))] sz) [(h0, .inr (11, [.ref tp, .ref rd, .ref se, .ref ba, .ref of, .ref pl, .ref sr, .ref sc, .int wk])), (tp, .inr (9, [.ref by_, .int (nI ln2)])), (by_, .inl (E.2.1 0, 800, .inl f2))] t) (va_A [(h0, .inr (11, [.ref tp, .ref rd, .ref se, .ref ba, .ref of, .ref pl, .ref sr, .ref sc, .int wk])), (tp, .inr (9, [.ref by_, .int (nI ln)])), (by_, .inl (E.2.1 0, 800, .inl f))] sz)) 0 0 (va_A [(h0, .inr (11, [.ref tp, .ref rd, .ref se, .ref ba, .ref of, .ref pl, .ref sr, .ref sc, .int wk])), (tp, .inr (9, [.ref by_, .int (nI ln)])), (by_, .inl (E.2.1 0, 800, .inl f))] sz) := by
  refine Met.ofW (cc := cX11_feed) (maxL := 6) (ret := (some .int)) (by decide) rfl ?_
  intro p e s m args below meth c s₁ B hml hv
  obtain ⟨rfl, hsz, hP, hkn, hD0, hst⟩ := hv
  have hx := B.exec
  have hb := B.bytes
  have hr := B.returns
  have hts := atoms_spec (ws := wsX11_feed) B.pre
  have hown : s.vm.findClass RX11 = some m.cls := findClass_of_methodNamed B.named
  have hlocks := B.notSynchronized
  subst hsz
  have hD := hD0.self (sz := s.heap.size)
  have hK := hkn.1
  have hAO := hkn.2.2.1
  generalize hAe : va_A [(h0, .inr (11, [.ref tp, .ref rd, .ref se, .ref ba, .ref of, .ref pl, .ref sr, .ref sc, .int wk])), (tp, .inr (9, [.ref by_, .int (nI ln)])), (by_, .inl (E.2.1 0, 800, .inl f))] s.heap.size = A at hD hst ⊢
  have hA : ∀ q : Nat, s.heap.size ≤ q → A q := fun q h => by rw [← hAe]; exact Or.inr h
  have hS : va_S A s.heap s.heap [] := va_S.rf
  have hP : va_P E.1 vwCl [(h0, .inr (11, [.ref tp, .ref rd, .ref se, .ref ba, .ref of, .ref pl, .ref sr, .ref sc, .int wk])), (tp, .inr (9, [.ref by_, .int (nI ln)])), (by_, .inl (E.2.1 0, 800, .inl f))] s.heap := hP
  have hl := lv_entry ([.ref h0, .int a1, .int a2, .int a3, .int a4, .int a5]) (n := 6) (Nat.le_of_ble_eq_true rfl)
  rw [lg_entry_eq]
  generalize (lg_sl ([.ref h0, .int a1, .int a2, .int a3, .int a4, .int a5]) ++ List.replicate (6 - (lg_sl ([.ref h0, .int a1, .int a2, .int a3, .int a4, .int a5])).length) Slot.unset).toArray = ls at hl ⊢
  have hl : lv_has ls 6 [(0, .ref h0), (1, .int a1), (2, .int a2), (3, .int a3), (4, .int a4), (5, .int a5)] := hl
  have fl10 := hts (.fieldLink RX11 10 "BoatsHome" "tape" "LBoatsHome$Tape;") (by first | exact List.mem_of_getElem? (i := 1) rfl | decide +kernel)
  have fl73 := hts (.fieldLink RX11 73 "BoatsHome$Tape" "length" "I") (by first | exact List.mem_of_getElem? (i := 2) rfl | decide +kernel)
  have inX11 : ∀ w ∈ u_ws RX11 TX11 9, w ∈ wsX11_feed := by first | exact fun w h9 => (List.mem_cons_of_mem _ (List.mem_append_left _ (List.mem_append_right _ h9))) | decide +kernel
  have inX9 : ∀ w ∈ u_ws RX9 TX9 2, w ∈ wsX11_feed := by first | exact fun w h9 => (List.mem_cons_of_mem _ (List.mem_append_right _ h9)) | decide +kernel
  refine lv_aload_n hx hb dX11_feed_0 rfl (lv_at hl 0 rfl) ?_
  refine va_get (D := E.1) (ci := 11) (v := .ref tp) (C := RX11) (T := TX11) (N := 9) hx hb hts inX11 hown hK hP 0 rfl rfl 0 (by decide) fl10 (fun _ h9 => h9) rfl dX11_feed_1 ?_
  refine va_get (D := E.1) (ci := 9) (v := .int (nI ln)) (C := RX9) (T := TX9) (N := 2) hx hb hts inX9 hown hK hP 1 rfl rfl 1 (by decide) fl73 (fun _ h9 => h9) rfl dX11_feed_4 ?_
  refine lv_bipush (v := 20) hx hb dX11_feed_7 (by decide) ?_
  refine lv_iadd hx hb dX11_feed_9 ?_
  refine lv_topi (fun x_1 ex_1 => ?_)
  obtain rfl : x_1 = nI (ln + 20) := ex_1.trans (nI_add ln 20)
  refine lv_sipush (v := 800) hx hb dX11_feed_10 (by decide) ?_
  refine lv_icmp_le (tgt := 19) hx hb dX11_feed_13 (by decide) (fun c_2 => ?_) (fun c_2 => ?_)
  · have h20 : ln + 20 ≤ 800 := by
      rcases Nat.lt_or_ge 800 (ln + 20) with q | q
      · exact absurd (nI_lt (a := 800) q (by omega)) (by first | exact Int32.not_lt.mpr c_2 | exact c_2)
      · exact q
    refine lv_aload_n hx hb dX11_feed_19 rfl (lv_at hl 0 rfl) ?_
    refine va_get (D := E.1) (ci := 11) (v := .ref tp) (C := RX11) (T := TX11) (N := 9) hx hb hts inX11 hown hK hP 0 rfl rfl 0 (by decide) fl10 (fun _ h9 => h9) rfl dX11_feed_20 ?_
    refine lv_iload_n hx hb dX11_feed_23 rfl (lv_at hl 1 rfl) ?_
    have hPc := hP.sub (ws' := [(tp, .inr (9, [.ref by_, .int (nI ln)])), (by_, .inl (E.2.1 0, 800, .inl f))]) [1, 2] rfl
    have hDc := hD.sub (ws' := [(tp, .inr (9, [.ref by_, .int (nI ln)])), (by_, .inl (E.2.1 0, 800, .inl f))]) [1, 2] (by decide) rfl
    have hFc := va_free (wc := [(tp, .inr (9, [.ref by_, .int (nI ln)])), (by_, .inl (E.2.1 0, 800, .inl f))]) hD hS hA [1, 2] rfl
    refine va_callv (va_runV (As := [.int a1]) (rest := []) ⟨hx, hb, hml, hown, hts⟩ (c_X9_append l E tp by_ ln a1 f s.heap.size (by omega)) (cwV 1 hts gX11_feed_X9_append rfl rfl rfl hdV_X9_append ⟨Nat.le_of_ble_eq_true rfl, Nat.le_of_ble_eq_true rfl⟩) ⟨pcW_blind, va_recv hK hPc (ci := 9) (q0 := 0) rfl rfl, (pcW_pre hPc hkn hDc hst hS hFc)⟩ rfl rfl hl.1 rfl (lv_room (Nat.le_of_ble_eq_true rfl)) dX11_feed_24 ⟨Nat.le_of_ble_eq_true rfl, Nat.le_of_ble_eq_true rfl⟩) hS (fun q _ h => hFc q h) hFc (fun u t H1 locs ht hvm hw_4 hB hz1 hk1 hS => ?_)
    obtain ⟨u_5, rfl⟩ : ∃ z, z = u := ⟨_, rfl⟩
    obtain ⟨hP1, hD1⟩ := hB
    rw [ht] at hP1
    try dsimp only at hw_4
    obtain ⟨hP, hD⟩ := va_join (wr := [(h0, .inr (11, [.ref tp, .ref rd, .ref se, .ref ba, .ref of, .ref pl, .ref sr, .ref sc, .int wk]))]) (w1 := [(tp, .inr (9, [.ref by_, .int (nI (ln + 4))])), (by_, .inl (E.2.1 0, 800, .inl u_5))]) hP hD [1, 2] [0] rfl rfl (by decide) (by decide) hk1 hFc hP1 hD1
    generalize H1 = H at hP hS ⊢
    have hP : va_P E.1 vwCl [(h0, .inr (11, [.ref tp, .ref rd, .ref se, .ref ba, .ref of, .ref pl, .ref sr, .ref sc, .int wk])), (tp, .inr (9, [.ref by_, .int (nI (ln + 4))])), (by_, .inl (E.2.1 0, 800, .inl u_5))] H := hP
    have hD : va_D A [(h0, .inr (11, [.ref tp, .ref rd, .ref se, .ref ba, .ref of, .ref pl, .ref sr, .ref sc, .int wk])), (tp, .inr (9, [.ref by_, .int (nI (ln + 4))])), (by_, .inl (E.2.1 0, 800, .inl u_5))] := hD
    refine lv_aload_n hx hb dX11_feed_27 rfl (lv_at hl 0 rfl) ?_
    refine va_get (D := E.1) (ci := 11) (v := .ref tp) (C := RX11) (T := TX11) (N := 9) hx hb hts inX11 hown hK hP 0 rfl rfl 0 (by decide) fl10 (fun _ h9 => h9) rfl dX11_feed_28 ?_
    refine lv_iload_n hx hb dX11_feed_31 rfl (lv_at hl 2 rfl) ?_
    have hPc := hP.sub (ws' := [(tp, .inr (9, [.ref by_, .int (nI (ln + 4))])), (by_, .inl (E.2.1 0, 800, .inl u_5))]) [1, 2] rfl
    have hDc := hD.sub (ws' := [(tp, .inr (9, [.ref by_, .int (nI (ln + 4))])), (by_, .inl (E.2.1 0, 800, .inl u_5))]) [1, 2] (by decide) rfl
    have hFc := va_free (wc := [(tp, .inr (9, [.ref by_, .int (nI (ln + 4))])), (by_, .inl (E.2.1 0, 800, .inl u_5))]) hD hS hA [1, 2] rfl
    refine va_callv (va_runV (As := [.int a2]) (rest := []) ⟨hx, hb, hml, hown, hts⟩ (c_X9_append l E tp by_ (ln + 4) a2 u_5 H.size (by omega)) (cwV 1 hts gX11_feed_X9_append rfl rfl rfl hdV_X9_append ⟨Nat.le_of_ble_eq_true rfl, Nat.le_of_ble_eq_true rfl⟩) ⟨pcW_blind, va_recv hK hPc (ci := 9) (q0 := 0) rfl rfl, (pcW_pre hPc hkn hDc hst hS hFc)⟩ rfl rfl hl.1 rfl (lv_room (Nat.le_of_ble_eq_true rfl)) dX11_feed_32 ⟨Nat.le_of_ble_eq_true rfl, Nat.le_of_ble_eq_true rfl⟩) hS (fun q _ h => hFc q h) hFc (fun u t H1 locs ht hvm hw_7 hB hz1 hk1 hS => ?_)
    obtain ⟨u_8, rfl⟩ : ∃ z, z = u := ⟨_, rfl⟩
    obtain ⟨hP1, hD1⟩ := hB
    rw [ht] at hP1
    try dsimp only at hw_7
    obtain ⟨hP, hD⟩ := va_join (wr := [(h0, .inr (11, [.ref tp, .ref rd, .ref se, .ref ba, .ref of, .ref pl, .ref sr, .ref sc, .int wk]))]) (w1 := [(tp, .inr (9, [.ref by_, .int (nI ((ln + 4) + 4))])), (by_, .inl (E.2.1 0, 800, .inl u_8))]) hP hD [1, 2] [0] rfl rfl (by decide) (by decide) hk1 hFc hP1 hD1
    generalize H1 = H at hP hS ⊢
    have hP : va_P E.1 vwCl [(h0, .inr (11, [.ref tp, .ref rd, .ref se, .ref ba, .ref of, .ref pl, .ref sr, .ref sc, .int wk])), (tp, .inr (9, [.ref by_, .int (nI ((ln + 4) + 4))])), (by_, .inl (E.2.1 0, 800, .inl u_8))] H := hP
    have hD : va_D A [(h0, .inr (11, [.ref tp, .ref rd, .ref se, .ref ba, .ref of, .ref pl, .ref sr, .ref sc, .int wk])), (tp, .inr (9, [.ref by_, .int (nI ((ln + 4) + 4))])), (by_, .inl (E.2.1 0, 800, .inl u_8))] := hD
    refine lv_aload_n hx hb dX11_feed_35 rfl (lv_at hl 0 rfl) ?_
    refine va_get (D := E.1) (ci := 11) (v := .ref tp) (C := RX11) (T := TX11) (N := 9) hx hb hts inX11 hown hK hP 0 rfl rfl 0 (by decide) fl10 (fun _ h9 => h9) rfl dX11_feed_36 ?_
    refine lv_iload_n hx hb dX11_feed_39 rfl (lv_at hl 3 rfl) ?_
    have hPc := hP.sub (ws' := [(tp, .inr (9, [.ref by_, .int (nI ((ln + 4) + 4))])), (by_, .inl (E.2.1 0, 800, .inl u_8))]) [1, 2] rfl
    have hDc := hD.sub (ws' := [(tp, .inr (9, [.ref by_, .int (nI ((ln + 4) + 4))])), (by_, .inl (E.2.1 0, 800, .inl u_8))]) [1, 2] (by decide) rfl
    have hFc := va_free (wc := [(tp, .inr (9, [.ref by_, .int (nI ((ln + 4) + 4))])), (by_, .inl (E.2.1 0, 800, .inl u_8))]) hD hS hA [1, 2] rfl
    refine va_callv (va_runV (As := [.int a3]) (rest := []) ⟨hx, hb, hml, hown, hts⟩ (c_X9_append l E tp by_ ((ln + 4) + 4) a3 u_8 H.size (by omega)) (cwV 1 hts gX11_feed_X9_append rfl rfl rfl hdV_X9_append ⟨Nat.le_of_ble_eq_true rfl, Nat.le_of_ble_eq_true rfl⟩) ⟨pcW_blind, va_recv hK hPc (ci := 9) (q0 := 0) rfl rfl, (pcW_pre hPc hkn hDc hst hS hFc)⟩ rfl rfl hl.1 rfl (lv_room (Nat.le_of_ble_eq_true rfl)) dX11_feed_40 ⟨Nat.le_of_ble_eq_true rfl, Nat.le_of_ble_eq_true rfl⟩) hS (fun q _ h => hFc q h) hFc (fun u t H1 locs ht hvm hw_10 hB hz1 hk1 hS => ?_)
    obtain ⟨u_11, rfl⟩ : ∃ z, z = u := ⟨_, rfl⟩
    obtain ⟨hP1, hD1⟩ := hB
    rw [ht] at hP1
    try dsimp only at hw_10
    obtain ⟨hP, hD⟩ := va_join (wr := [(h0, .inr (11, [.ref tp, .ref rd, .ref se, .ref ba, .ref of, .ref pl, .ref sr, .ref sc, .int wk]))]) (w1 := [(tp, .inr (9, [.ref by_, .int (nI (((ln + 4) + 4) + 4))])), (by_, .inl (E.2.1 0, 800, .inl u_11))]) hP hD [1, 2] [0] rfl rfl (by decide) (by decide) hk1 hFc hP1 hD1
    generalize H1 = H at hP hS ⊢
    have hP : va_P E.1 vwCl [(h0, .inr (11, [.ref tp, .ref rd, .ref se, .ref ba, .ref of, .ref pl, .ref sr, .ref sc, .int wk])), (tp, .inr (9, [.ref by_, .int (nI (((ln + 4) + 4) + 4))])), (by_, .inl (E.2.1 0, 800, .inl u_11))] H := hP
    have hD : va_D A [(h0, .inr (11, [.ref tp, .ref rd, .ref se, .ref ba, .ref of, .ref pl, .ref sr, .ref sc, .int wk])), (tp, .inr (9, [.ref by_, .int (nI (((ln + 4) + 4) + 4))])), (by_, .inl (E.2.1 0, 800, .inl u_11))] := hD
    refine lv_aload_n hx hb dX11_feed_43 rfl (lv_at hl 0 rfl) ?_
    refine va_get (D := E.1) (ci := 11) (v := .ref tp) (C := RX11) (T := TX11) (N := 9) hx hb hts inX11 hown hK hP 0 rfl rfl 0 (by decide) fl10 (fun _ h9 => h9) rfl dX11_feed_44 ?_
    refine lv_iload hx hb dX11_feed_47 (lv_at hl 4 rfl) ?_
    have hPc := hP.sub (ws' := [(tp, .inr (9, [.ref by_, .int (nI (((ln + 4) + 4) + 4))])), (by_, .inl (E.2.1 0, 800, .inl u_11))]) [1, 2] rfl
    have hDc := hD.sub (ws' := [(tp, .inr (9, [.ref by_, .int (nI (((ln + 4) + 4) + 4))])), (by_, .inl (E.2.1 0, 800, .inl u_11))]) [1, 2] (by decide) rfl
    have hFc := va_free (wc := [(tp, .inr (9, [.ref by_, .int (nI (((ln + 4) + 4) + 4))])), (by_, .inl (E.2.1 0, 800, .inl u_11))]) hD hS hA [1, 2] rfl
    refine va_callv (va_runV (As := [.int a4]) (rest := []) ⟨hx, hb, hml, hown, hts⟩ (c_X9_append l E tp by_ (((ln + 4) + 4) + 4) a4 u_11 H.size (by omega)) (cwV 1 hts gX11_feed_X9_append rfl rfl rfl hdV_X9_append ⟨Nat.le_of_ble_eq_true rfl, Nat.le_of_ble_eq_true rfl⟩) ⟨pcW_blind, va_recv hK hPc (ci := 9) (q0 := 0) rfl rfl, (pcW_pre hPc hkn hDc hst hS hFc)⟩ rfl rfl hl.1 rfl (lv_room (Nat.le_of_ble_eq_true rfl)) dX11_feed_49 ⟨Nat.le_of_ble_eq_true rfl, Nat.le_of_ble_eq_true rfl⟩) hS (fun q _ h => hFc q h) hFc (fun u t H1 locs ht hvm hw_13 hB hz1 hk1 hS => ?_)
    obtain ⟨u_14, rfl⟩ : ∃ z, z = u := ⟨_, rfl⟩
    obtain ⟨hP1, hD1⟩ := hB
    rw [ht] at hP1
    try dsimp only at hw_13
    obtain ⟨hP, hD⟩ := va_join (wr := [(h0, .inr (11, [.ref tp, .ref rd, .ref se, .ref ba, .ref of, .ref pl, .ref sr, .ref sc, .int wk]))]) (w1 := [(tp, .inr (9, [.ref by_, .int (nI ((((ln + 4) + 4) + 4) + 4))])), (by_, .inl (E.2.1 0, 800, .inl u_14))]) hP hD [1, 2] [0] rfl rfl (by decide) (by decide) hk1 hFc hP1 hD1
    generalize H1 = H at hP hS ⊢
    have hP : va_P E.1 vwCl [(h0, .inr (11, [.ref tp, .ref rd, .ref se, .ref ba, .ref of, .ref pl, .ref sr, .ref sc, .int wk])), (tp, .inr (9, [.ref by_, .int (nI ((((ln + 4) + 4) + 4) + 4))])), (by_, .inl (E.2.1 0, 800, .inl u_14))] H := hP
    have hD : va_D A [(h0, .inr (11, [.ref tp, .ref rd, .ref se, .ref ba, .ref of, .ref pl, .ref sr, .ref sc, .int wk])), (tp, .inr (9, [.ref by_, .int (nI ((((ln + 4) + 4) + 4) + 4))])), (by_, .inl (E.2.1 0, 800, .inl u_14))] := hD
    refine lv_aload_n hx hb dX11_feed_52 rfl (lv_at hl 0 rfl) ?_
    refine va_get (D := E.1) (ci := 11) (v := .ref tp) (C := RX11) (T := TX11) (N := 9) hx hb hts inX11 hown hK hP 0 rfl rfl 0 (by decide) fl10 (fun _ h9 => h9) rfl dX11_feed_53 ?_
    refine lv_iload hx hb dX11_feed_56 (lv_at hl 5 rfl) ?_
    have hPc := hP.sub (ws' := [(tp, .inr (9, [.ref by_, .int (nI ((((ln + 4) + 4) + 4) + 4))])), (by_, .inl (E.2.1 0, 800, .inl u_14))]) [1, 2] rfl
    have hDc := hD.sub (ws' := [(tp, .inr (9, [.ref by_, .int (nI ((((ln + 4) + 4) + 4) + 4))])), (by_, .inl (E.2.1 0, 800, .inl u_14))]) [1, 2] (by decide) rfl
    have hFc := va_free (wc := [(tp, .inr (9, [.ref by_, .int (nI ((((ln + 4) + 4) + 4) + 4))])), (by_, .inl (E.2.1 0, 800, .inl u_14))]) hD hS hA [1, 2] rfl
    refine va_callv (va_runV (As := [.int a5]) (rest := []) ⟨hx, hb, hml, hown, hts⟩ (c_X9_append l E tp by_ ((((ln + 4) + 4) + 4) + 4) a5 u_14 H.size (by omega)) (cwV 1 hts gX11_feed_X9_append rfl rfl rfl hdV_X9_append ⟨Nat.le_of_ble_eq_true rfl, Nat.le_of_ble_eq_true rfl⟩) ⟨pcW_blind, va_recv hK hPc (ci := 9) (q0 := 0) rfl rfl, (pcW_pre hPc hkn hDc hst hS hFc)⟩ rfl rfl hl.1 rfl (lv_room (Nat.le_of_ble_eq_true rfl)) dX11_feed_58 ⟨Nat.le_of_ble_eq_true rfl, Nat.le_of_ble_eq_true rfl⟩) hS (fun q _ h => hFc q h) hFc (fun u t H1 locs ht hvm hw_16 hB hz1 hk1 hS => ?_)
    obtain ⟨u_17, rfl⟩ : ∃ z, z = u := ⟨_, rfl⟩
    obtain ⟨hP1, hD1⟩ := hB
    rw [ht] at hP1
    try dsimp only at hw_16
    obtain ⟨hP, hD⟩ := va_join (wr := [(h0, .inr (11, [.ref tp, .ref rd, .ref se, .ref ba, .ref of, .ref pl, .ref sr, .ref sc, .int wk]))]) (w1 := [(tp, .inr (9, [.ref by_, .int (nI (((((ln + 4) + 4) + 4) + 4) + 4))])), (by_, .inl (E.2.1 0, 800, .inl u_17))]) hP hD [1, 2] [0] rfl rfl (by decide) (by decide) hk1 hFc hP1 hD1
    generalize H1 = H at hP hS ⊢
    have hP : va_P E.1 vwCl [(h0, .inr (11, [.ref tp, .ref rd, .ref se, .ref ba, .ref of, .ref pl, .ref sr, .ref sc, .int wk])), (tp, .inr (9, [.ref by_, .int (nI (((((ln + 4) + 4) + 4) + 4) + 4))])), (by_, .inl (E.2.1 0, 800, .inl u_17))] H := hP
    have hD : va_D A [(h0, .inr (11, [.ref tp, .ref rd, .ref se, .ref ba, .ref of, .ref pl, .ref sr, .ref sc, .int wk])), (tp, .inr (9, [.ref by_, .int (nI (((((ln + 4) + 4) + 4) + 4) + 4))])), (by_, .inl (E.2.1 0, 800, .inl u_17))] := hD
    refine lv_aload_n hx hb dX11_feed_61 rfl (lv_at hl 0 rfl) ?_
    refine va_get (D := E.1) (ci := 11) (v := .ref tp) (C := RX11) (T := TX11) (N := 9) hx hb hts inX11 hown hK hP 0 rfl rfl 0 (by decide) fl10 (fun _ h9 => h9) rfl dX11_feed_62 ?_
    refine va_get (D := E.1) (ci := 9) (v := .int (nI (((((ln + 4) + 4) + 4) + 4) + 4))) (C := RX9) (T := TX9) (N := 2) hx hb hts inX9 hown hK hP 1 rfl rfl 1 (by decide) fl73 (fun _ h9 => h9) rfl dX11_feed_65 ?_
    have hP9 := hP.sub (ws' := [(h0, .inr (11, [.ref tp, .ref rd, .ref se, .ref ba, .ref of, .ref pl, .ref sr, .ref sc, .int wk])), (tp, .inr (9, [.ref by_, .int (nI (((((ln + 4) + 4) + 4) + 4) + 4))])), (by_, .inl (E.2.1 0, 800, .inl u_17))]) [0, 1, 2] rfl
    have hD9 := hD.sub (ws' := [(h0, .inr (11, [.ref tp, .ref rd, .ref se, .ref ba, .ref of, .ref pl, .ref sr, .ref sc, .int wk])), (tp, .inr (9, [.ref by_, .int (nI (((((ln + 4) + 4) + 4) + 4) + 4))])), (by_, .inl (E.2.1 0, 800, .inl u_17))]) [0, 1, 2] (by decide) rfl
    exact W.iret (v := (nI (((((ln + 4) + 4) + 4) + 4) + 4))) hx hb hr (fun t ht hW => ⟨⟨(nI (((((ln + 4) + 4) + 4) + 4) + 4)), ((((((ln + 4) + 4) + 4) + 4) + 4), u_17), rfl, trivial, (by omega), by rw [ht]; exact hP9, hD9⟩, hS.F ht⟩) hS.2.2 dX11_feed_68
  · refine lv_bipush (v := (-3)) hx hb dX11_feed_16 (by decide) ?_
    have hP9 := hP.sub (ws' := [(h0, .inr (11, [.ref tp, .ref rd, .ref se, .ref ba, .ref of, .ref pl, .ref sr, .ref sc, .int wk])), (tp, .inr (9, [.ref by_, .int (nI ln)])), (by_, .inl (E.2.1 0, 800, .inl f))]) [0, 1, 2] rfl
    have hD9 := hD.sub (ws' := [(h0, .inr (11, [.ref tp, .ref rd, .ref se, .ref ba, .ref of, .ref pl, .ref sr, .ref sc, .int wk])), (tp, .inr (9, [.ref by_, .int (nI ln)])), (by_, .inl (E.2.1 0, 800, .inl f))]) [0, 1, 2] (by decide) rfl
    exact W.iret (v := (-3)) hx hb hr (fun t ht hW => ⟨⟨(-3), (ln, f), rfl, trivial, (by omega), by rw [ht]; exact hP9, hD9⟩, hS.F ht⟩) hS.2.2 dX11_feed_18
set_option maxHeartbeats 4000000 in
set_option maxRecDepth 100000 in
theorem c_X11_end (l : Launch) (E : vE) (h0 : Nat) (tp : Nat) (rd : Nat) (se : Nat) (ba : Nat) (of : Nat) (pl : Nat) (sr : Nat) (sc : Nat) (wk : Int32) (by_ : Nat) (ln : Nat) (n : Int32) (sz : Nat) (hln : ln ≤ 800) : Met l yX11_end wsX11_end ({ frames := 2, cells := 0, slots := 0, locals := 40 }) (pcW E [.ref h0, .int n] sz [(h0, .inr (11, [.ref tp, .ref rd, .ref se, .ref ba, .ref of, .ref pl, .ref sr, .ref sc, .int wk])), (tp, .inr (9, [.ref by_, .int (nI ln)]))]) (va_Qi (fun (r : Int32) (ln2 : Nat) => True) (fun (ln2 : Nat) (t : State) => (ln2 ≤ 800) ∧ wB E (va_A [(h0, .inr (11, [.ref tp, .ref rd, .ref se, .ref ba, .ref of, .ref pl, .ref sr, .ref sc, .int wk])), (tp, .inr (9, [.ref by_, .int (nI ln)]))] sz) [(h0, .inr (11, [.ref tp, .ref rd, .ref se, .ref ba, .ref of, .ref pl, .ref sr, .ref sc, .int wk])), (tp, .inr (9, [.ref by_, .int (nI ln2)]))] t) (va_A [(h0, .inr (11, [.ref tp, .ref rd, .ref se, .ref ba, .ref of, .ref pl, .ref sr, .ref sc, .int wk])), (tp, .inr (9, [.ref by_, .int (nI ln)]))] sz)) 0 0 (va_A [(h0, .inr (11, [.ref tp, .ref rd, .ref se, .ref ba, .ref of, .ref pl, .ref sr, .ref sc, .int wk])), (tp, .inr (9, [.ref by_, .int (nI ln)]))] sz) := by
  refine Met.ofW (cc := cX11_end) (maxL := 2) (ret := (some .int)) (by decide) rfl ?_
  intro p e s m args below meth c s₁ B hml hv
  obtain ⟨rfl, hsz, hP, hkn, hD0, hst⟩ := hv
  have hx := B.exec
  have hb := B.bytes
  have hr := B.returns
  have hts := atoms_spec (ws := wsX11_end) B.pre
  have hown : s.vm.findClass RX11 = some m.cls := findClass_of_methodNamed B.named
  have hlocks := B.notSynchronized
  subst hsz
  have hD := hD0.self (sz := s.heap.size)
  have hK := hkn.1
  have hAO := hkn.2.2.1
  generalize hAe : va_A [(h0, .inr (11, [.ref tp, .ref rd, .ref se, .ref ba, .ref of, .ref pl, .ref sr, .ref sc, .int wk])), (tp, .inr (9, [.ref by_, .int (nI ln)]))] s.heap.size = A at hD hst ⊢
  have hA : ∀ q : Nat, s.heap.size ≤ q → A q := fun q h => by rw [← hAe]; exact Or.inr h
  have hS : va_S A s.heap s.heap [] := va_S.rf
  have hP : va_P E.1 vwCl [(h0, .inr (11, [.ref tp, .ref rd, .ref se, .ref ba, .ref of, .ref pl, .ref sr, .ref sc, .int wk])), (tp, .inr (9, [.ref by_, .int (nI ln)]))] s.heap := hP
  have hl := lv_entry ([.ref h0, .int n]) (n := 2) (Nat.le_of_ble_eq_true rfl)
  rw [lg_entry_eq]
  generalize (lg_sl ([.ref h0, .int n]) ++ List.replicate (2 - (lg_sl ([.ref h0, .int n])).length) Slot.unset).toArray = ls at hl ⊢
  have hl : lv_has ls 2 [(0, .ref h0), (1, .int n)] := hl
  have fl10 := hts (.fieldLink RX11 10 "BoatsHome" "tape" "LBoatsHome$Tape;") (by first | exact List.mem_of_getElem? (i := 1) rfl | decide +kernel)
  have fl73 := hts (.fieldLink RX11 73 "BoatsHome$Tape" "length" "I") (by first | exact List.mem_of_getElem? (i := 2) rfl | decide +kernel)
  have inX11 : ∀ w ∈ u_ws RX11 TX11 9, w ∈ wsX11_end := by first | exact fun w h9 => (List.mem_cons_of_mem _ (List.mem_append_left _ (List.mem_append_right _ h9))) | decide +kernel
  have inX9 : ∀ w ∈ u_ws RX9 TX9 2, w ∈ wsX11_end := by first | exact fun w h9 => (List.mem_cons_of_mem _ (List.mem_append_right _ h9)) | decide +kernel
  refine lv_iload_n hx hb dX11_end_0 rfl (lv_at hl 1 rfl) ?_
  refine lv_iconst (v := 0) hx hb dX11_end_1 (by decide) ?_
  refine lv_aload_n hx hb dX11_end_2 rfl (lv_at hl 0 rfl) ?_
  refine va_get (D := E.1) (ci := 11) (v := .ref tp) (C := RX11) (T := TX11) (N := 9) hx hb hts inX11 hown hK hP 0 rfl rfl 0 (by decide) fl10 (fun _ h9 => h9) rfl dX11_end_3 ?_
  refine va_get (D := E.1) (ci := 9) (v := .int (nI ln)) (C := RX9) (T := TX9) (N := 2) hx hb hts inX9 hown hK hP 1 rfl rfl 1 (by decide) fl73 (fun _ h9 => h9) rfl dX11_end_6 ?_
  have hPc := hP.sub (ws' := []) [] rfl
  have hDc := hD.sub (ws' := []) [] (by decide) rfl
  have hFc := va_free (wc := []) hD hS hA [] rfl
  refine va_calli (va_runS (As := [.int n, .int 0, .int (nI ln)]) (rest := []) ⟨hx, hb, hml, hown, hts⟩ (c_X11_within l E n 0 (nI ln) s.heap.size ) (va_cwS 3 hts gX11_end_X11_within rfl rfl rfl hdS_X11_within ⟨Nat.le_of_ble_eq_true rfl, Nat.le_of_ble_eq_true rfl⟩) ⟨pcW_blind, (pcW_pre hPc hkn hDc hst hS hFc)⟩ rfl rfl hl.1 rfl (lv_room (Nat.le_of_ble_eq_true rfl)) dX11_end_9 ⟨Nat.le_of_ble_eq_true rfl, Nat.le_of_ble_eq_true rfl⟩) hS (fun q _ h => hFc q h) hFc (fun r_1 u t H1 locs ht hvm hw_2 hB hz1 hk1 hS => ?_)
  obtain ⟨hP1, hD1⟩ := hB
  rw [ht] at hP1
  try dsimp only at hw_2
  obtain ⟨hP, hD⟩ := va_join (wr := [(h0, .inr (11, [.ref tp, .ref rd, .ref se, .ref ba, .ref of, .ref pl, .ref sr, .ref sc, .int wk])), (tp, .inr (9, [.ref by_, .int (nI ln)]))]) (w1 := []) hP hD [] [0, 1] rfl rfl (by decide) (by decide) hk1 hFc hP1 hD1
  generalize H1 = H at hP hS ⊢
  have hP : va_P E.1 vwCl [(h0, .inr (11, [.ref tp, .ref rd, .ref se, .ref ba, .ref of, .ref pl, .ref sr, .ref sc, .int wk])), (tp, .inr (9, [.ref by_, .int (nI ln)]))] H := hP
  have hD : va_D A [(h0, .inr (11, [.ref tp, .ref rd, .ref se, .ref ba, .ref of, .ref pl, .ref sr, .ref sc, .int wk])), (tp, .inr (9, [.ref by_, .int (nI ln)]))] := hD
  refine lv_if_ne (tgt := 17) hx hb dX11_end_12 (by decide) (fun c_3 => ?_) (fun c_3 => ?_)
  · have b_4 : inR n 0 (nI ln) = true := bn hw_2 c_3
    refine lv_aload_n hx hb dX11_end_17 rfl (lv_at hl 0 rfl) ?_
    refine va_get (D := E.1) (ci := 11) (v := .ref tp) (C := RX11) (T := TX11) (N := 9) hx hb hts inX11 hown hK hP 0 rfl rfl 0 (by decide) fl10 (fun _ h9 => h9) rfl dX11_end_18 ?_
    refine lv_iload_n hx hb dX11_end_21 rfl (lv_at hl 1 rfl) ?_
    obtain ⟨j, hj, ej⟩ := inR_nI (n := ln) (nI_toInt (by omega)) b_4
    subst ej
    refine va_put (D := E.1) (ci := 9) (v := .int (nI j)) (ty := .int) (C := RX9) (T := TX9) (N := 2) hx hb hts inX9 tyX9 tyX9_ok nmX9 hown hK hP hD hS 1 rfl rfl 1 (by decide) fl73 (fun _ h9 => h9) rfl (by decide +kernel) rfl rfl (Nat.le_of_ble_eq_true rfl) dX11_end_22 (fun H locs hP hD hS => ?_)
    have hP : va_P E.1 vwCl [(h0, .inr (11, [.ref tp, .ref rd, .ref se, .ref ba, .ref of, .ref pl, .ref sr, .ref sc, .int wk])), (tp, .inr (9, [.ref by_, .int (nI j)]))] H := hP
    have hD : va_D A [(h0, .inr (11, [.ref tp, .ref rd, .ref se, .ref ba, .ref of, .ref pl, .ref sr, .ref sc, .int wk])), (tp, .inr (9, [.ref by_, .int (nI j)]))] := hD
    refine lv_iload_n hx hb dX11_end_25 rfl (lv_at hl 1 rfl) ?_
    have hP9 := hP.sub (ws' := [(h0, .inr (11, [.ref tp, .ref rd, .ref se, .ref ba, .ref of, .ref pl, .ref sr, .ref sc, .int wk])), (tp, .inr (9, [.ref by_, .int (nI j)]))]) [0, 1] rfl
    have hD9 := hD.sub (ws' := [(h0, .inr (11, [.ref tp, .ref rd, .ref se, .ref ba, .ref of, .ref pl, .ref sr, .ref sc, .int wk])), (tp, .inr (9, [.ref by_, .int (nI j)]))]) [0, 1] (by decide) rfl
    exact W.iret (v := (nI j)) hx hb hr (fun t ht hW => ⟨⟨(nI j), j, rfl, trivial, (by omega), by rw [ht]; exact hP9, hD9⟩, hS.F ht⟩) hS.2.2 dX11_end_26
  · have b_5 : inR n 0 (nI ln) = false := bz hw_2 c_3
    refine lv_iconst (v := (-1)) hx hb dX11_end_15 (by decide) ?_
    have hP9 := hP.sub (ws' := [(h0, .inr (11, [.ref tp, .ref rd, .ref se, .ref ba, .ref of, .ref pl, .ref sr, .ref sc, .int wk])), (tp, .inr (9, [.ref by_, .int (nI ln)]))]) [0, 1] rfl
    have hD9 := hD.sub (ws' := [(h0, .inr (11, [.ref tp, .ref rd, .ref se, .ref ba, .ref of, .ref pl, .ref sr, .ref sc, .int wk])), (tp, .inr (9, [.ref by_, .int (nI ln)]))]) [0, 1] (by decide) rfl
    exact W.iret (v := (-1)) hx hb hr (fun t ht hW => ⟨⟨(-1), ln, rfl, trivial, (by omega), by rw [ht]; exact hP9, hD9⟩, hS.F ht⟩) hS.2.2 dX11_end_16
set_option maxHeartbeats 4000000 in
set_option maxRecDepth 100000 in
theorem c_X11_plan (l : Launch) (E : vE) (h0 : Nat) (tp : Nat) (rd : Nat) (se : Nat) (ba : Nat) (of : Nat) (pl : Nat) (sr : Nat) (sc : Nat) (wk : Int32) (k1 : Nat) (k2 : Nat) (k3 : Nat) (k4 : Nat) (md : Int32) (dn : Int32) (fsu : Int32) (e1 : Nat) (e2 : Nat) (e3 : Nat) (e4 : Nat) (g1 : Nat) (g2 : Nat) (g3 : Nat) (g4 : Nat) (g5 : Nat) (g6 : Nat) (g7 : Nat) (g8 : Nat) (on : Nat) (d1 : Nat → Int32) (d2 : Nat → Int32) (d3 : Nat → Int32) (d4 : Nat → Int32) (d5 : Nat → Int32) (d6 : Nat → Int32) (d7 : Nat → Int32) (d8 : Nat → Int32) (c1 : Nat → Int32) (c2 : Nat → Int32) (c3 : Nat → Int32) (c4 : Nat → Int32) (fj : Nat → Int64) (f3 : Nat → Int32) (f4 : Nat → Int32) (sz : Nat) (hd1 : ∀ k, k < 7 → inR (d1 k) 0 9 = true) (hon : on ≤ 7) : Met l yX11_plan wsX11_plan ({ frames := 13, cells := 0, slots := 0, locals := 367 }) (pcW E [.ref h0] sz [(h0, .inr (11, [.ref tp, .ref rd, .ref se, .ref ba, .ref of, .ref pl, .ref sr, .ref sc, .int wk])), (pl, .inr (5, [.ref of, .ref k1, .ref k2, .ref k3, .ref k4, .int md, .int dn, .int fsu])), (k2, .inl (E.2.1 2, 128, .inr (.inl fj))), (k3, .inl (E.2.1 0, 7, .inl f3)), (k4, .inl (E.2.1 0, 7, .inl f4)), (k1, .inr (3, [.ref of, .ref e1, .ref e2, .ref e3, .ref e4])), (e1, .inl (E.2.1 0, 512, .inl c1)), (e2, .inl (E.2.1 0, 512, .inl c2)), (e3, .inl (E.2.1 0, 896, .inl c3)), (e4, .inl (E.2.1 0, 896, .inl c4)), (of, .inr (2, [.ref g1, .ref g2, .ref g3, .ref g4, .ref g5, .int (nI on), .ref g6, .ref g7, .ref g8])), (g1, .inl (E.2.1 0, 7, .inl d1)), (g2, .inl (E.2.1 0, 7, .inl d2)), (g3, .inl (E.2.1 0, 7, .inl d3)), (g4, .inl (E.2.1 0, 7, .inl d4)), (g5, .inl (E.2.1 0, 7, .inl d5)), (g6, .inl (E.2.1 0, 4, .inl d6)), (g7, .inl (E.2.1 0, 4, .inl d7)), (g8, .inl (E.2.1 0, 100, .inl d8))]) (va_Qi (fun (r : Int32) (u : Int32 × Int32 × Int32 × (Nat → Int32) × (Nat → Int32) × (Nat → Int32) × (Nat → Int32) × (Nat → Int64) × (Nat → Int32) × (Nat → Int32)) => match u with | (md2, dn2, fsu2, c12, c22, c32, c42, fj2, f32, f42) => True) (fun (u : Int32 × Int32 × Int32 × (Nat → Int32) × (Nat → Int32) × (Nat → Int32) × (Nat → Int32) × (Nat → Int64) × (Nat → Int32) × (Nat → Int32)) (t : State) => match u with | (md2, dn2, fsu2, c12, c22, c32, c42, fj2, f32, f42) => wB E (va_A [(h0, .inr (11, [.ref tp, .ref rd, .ref se, .ref ba, .ref of, .ref pl, .ref sr, .ref sc, .int wk])), (pl, .inr (5, [.ref of, .ref k1, .ref k2, .ref k3, .ref k4, .int md, .int dn, .int fsu])), (k2, .inl (E.2.1 2, 128, .inr (.inl fj))), (k3, .inl (E.2.1 0, 7, .inl f3)), (k4, .inl (E.2.1 0, 7, .inl f4)), (k1, .inr (3, [.ref of, .ref e1, .ref e2, .ref e3, .ref e4])), (e1, .inl (E.2.1 0, 512, .inl c1)), (e2, .inl (E.2.1 0, 512, .inl c2)), (e3, .inl (E.2.1 0, 896, .inl c3)), (e4, .inl (E.2.1 0, 896, .inl c4)), (of, .inr (2, [.ref g1, .ref g2, .ref g3, .ref g4, .ref g5, .int (nI on), .ref g6, .ref g7, .ref g8])), (g1, .inl (E.2.1 0, 7, .inl d1)), (g2, .inl (E.2.1 0, 7, .inl d2)), (g3, .inl (E.2.1 0, 7, .inl d3)), (g4, .inl (E.2.1 0, 7, .inl d4)), (g5, .inl (E.2.1 0, 7, .inl d5)), (g6, .inl (E.2.1 0, 4, .inl d6)), (g7, .inl (E.2.1 0, 4, .inl d7)), (g8, .inl (E.2.1 0, 100, .inl d8))] sz) [(h0, .inr (11, [.ref tp, .ref rd, .ref se, .ref ba, .ref of, .ref pl, .ref sr, .ref sc, .int wk])), (pl, .inr (5, [.ref of, .ref k1, .ref k2, .ref k3, .ref k4, .int md2, .int dn2, .int fsu2])), (k2, .inl (E.2.1 2, 128, .inr (.inl fj2))), (k3, .inl (E.2.1 0, 7, .inl f32)), (k4, .inl (E.2.1 0, 7, .inl f42)), (k1, .inr (3, [.ref of, .ref e1, .ref e2, .ref e3, .ref e4])), (e1, .inl (E.2.1 0, 512, .inl c12)), (e2, .inl (E.2.1 0, 512, .inl c22)), (e3, .inl (E.2.1 0, 896, .inl c32)), (e4, .inl (E.2.1 0, 896, .inl c42)), (of, .inr (2, [.ref g1, .ref g2, .ref g3, .ref g4, .ref g5, .int (nI on), .ref g6, .ref g7, .ref g8])), (g1, .inl (E.2.1 0, 7, .inl d1)), (g2, .inl (E.2.1 0, 7, .inl d2)), (g3, .inl (E.2.1 0, 7, .inl d3)), (g4, .inl (E.2.1 0, 7, .inl d4)), (g5, .inl (E.2.1 0, 7, .inl d5)), (g6, .inl (E.2.1 0, 4, .inl d6)), (g7, .inl (E.2.1 0, 4, .inl d7)), (g8, .inl (E.2.1 0, 100, .inl d8))] t) (va_A [(h0, .inr (11, [.ref tp, .ref rd, .ref se, .ref ba, .ref of, .ref pl, .ref sr, .ref sc, .int wk])), (pl, .inr (5, [.ref of, .ref k1, .ref k2, .ref k3, .ref k4, .int md, .int dn, .int fsu])), (k2, .inl (E.2.1 2, 128, .inr (.inl fj))), (k3, .inl (E.2.1 0, 7, .inl f3)), (k4, .inl (E.2.1 0, 7, .inl f4)), (k1, .inr (3, [.ref of, .ref e1, .ref e2, .ref e3, .ref e4])), (e1, .inl (E.2.1 0, 512, .inl c1)), (e2, .inl (E.2.1 0, 512, .inl c2)), (e3, .inl (E.2.1 0, 896, .inl c3)), (e4, .inl (E.2.1 0, 896, .inl c4)), (of, .inr (2, [.ref g1, .ref g2, .ref g3, .ref g4, .ref g5, .int (nI on), .ref g6, .ref g7, .ref g8])), (g1, .inl (E.2.1 0, 7, .inl d1)), (g2, .inl (E.2.1 0, 7, .inl d2)), (g3, .inl (E.2.1 0, 7, .inl d3)), (g4, .inl (E.2.1 0, 7, .inl d4)), (g5, .inl (E.2.1 0, 7, .inl d5)), (g6, .inl (E.2.1 0, 4, .inl d6)), (g7, .inl (E.2.1 0, 4, .inl d7)), (g8, .inl (E.2.1 0, 100, .inl d8))] sz)) 0 0 (va_A [(h0, .inr (11, [.ref tp, .ref rd, .ref se, .ref ba, .ref of, .ref pl, .ref sr, .ref sc, .int wk])), (pl, .inr (5, [.ref of, .ref k1, .ref k2, .ref k3, .ref k4, .int md, .int dn, .int fsu])), (k2, .inl (E.2.1 2, 128, .inr (.inl fj))), (k3, .inl (E.2.1 0, 7, .inl f3)), (k4, .inl (E.2.1 0, 7, .inl f4)), (k1, .inr (3, [.ref of, .ref e1, .ref e2, .ref e3, .ref e4])), (e1, .inl (E.2.1 0, 512, .inl c1)), (e2, .inl (E.2.1 0, 512, .inl c2)), (e3, .inl (E.2.1 0, 896, .inl c3)), (e4, .inl (E.2.1 0, 896, .inl c4)), (of, .inr (2, [.ref g1, .ref g2, .ref g3, .ref g4, .ref g5, .int (nI on), .ref g6, .ref g7, .ref g8])), (g1, .inl (E.2.1 0, 7, .inl d1)), (g2, .inl (E.2.1 0, 7, .inl d2)), (g3, .inl (E.2.1 0, 7, .inl d3)), (g4, .inl (E.2.1 0, 7, .inl d4)), (g5, .inl (E.2.1 0, 7, .inl d5)), (g6, .inl (E.2.1 0, 4, .inl d6)), (g7, .inl (E.2.1 0, 4, .inl d7)), (g8, .inl (E.2.1 0, 100, .inl d8))] sz) := by
  refine Met.ofW (cc := cX11_plan) (maxL := 1) (ret := (some .int)) (by decide) rfl ?_
  intro p e s m args below meth c s₁ B hml hv
  obtain ⟨rfl, hsz, hP, hkn, hD0, hst⟩ := hv
  have hx := B.exec
  have hb := B.bytes
  have hr := B.returns
  have hts := atoms_spec (ws := wsX11_plan) B.pre
  have hown : s.vm.findClass RX11 = some m.cls := findClass_of_methodNamed B.named
  have hlocks := B.notSynchronized
  subst hsz
  have hD := hD0.self (sz := s.heap.size)
  have hK := hkn.1
  have hAO := hkn.2.2.1
  generalize hAe : va_A [(h0, .inr (11, [.ref tp, .ref rd, .ref se, .ref ba, .ref of, .ref pl, .ref sr, .ref sc, .int wk])), (pl, .inr (5, [.ref of, .ref k1, .ref k2, .ref k3, .ref k4, .int md, .int dn, .int fsu])), (k2, .inl (E.2.1 2, 128, .inr (.inl fj))), (k3, .inl (E.2.1 0, 7, .inl f3)), (k4, .inl (E.2.1 0, 7, .inl f4)), (k1, .inr (3, [.ref of, .ref e1, .ref e2, .ref e3, .ref e4])), (e1, .inl (E.2.1 0, 512, .inl c1)), (e2, .inl (E.2.1 0, 512, .inl c2)), (e3, .inl (E.2.1 0, 896, .inl c3)), (e4, .inl (E.2.1 0, 896, .inl c4)), (of, .inr (2, [.ref g1, .ref g2, .ref g3, .ref g4, .ref g5, .int (nI on), .ref g6, .ref g7, .ref g8])), (g1, .inl (E.2.1 0, 7, .inl d1)), (g2, .inl (E.2.1 0, 7, .inl d2)), (g3, .inl (E.2.1 0, 7, .inl d3)), (g4, .inl (E.2.1 0, 7, .inl d4)), (g5, .inl (E.2.1 0, 7, .inl d5)), (g6, .inl (E.2.1 0, 4, .inl d6)), (g7, .inl (E.2.1 0, 4, .inl d7)), (g8, .inl (E.2.1 0, 100, .inl d8))] s.heap.size = A at hD hst ⊢
  have hA : ∀ q : Nat, s.heap.size ≤ q → A q := fun q h => by rw [← hAe]; exact Or.inr h
  have hS : va_S A s.heap s.heap [] := va_S.rf
  have hP : va_P E.1 vwCl [(h0, .inr (11, [.ref tp, .ref rd, .ref se, .ref ba, .ref of, .ref pl, .ref sr, .ref sc, .int wk])), (pl, .inr (5, [.ref of, .ref k1, .ref k2, .ref k3, .ref k4, .int md, .int dn, .int fsu])), (k2, .inl (E.2.1 2, 128, .inr (.inl fj))), (k3, .inl (E.2.1 0, 7, .inl f3)), (k4, .inl (E.2.1 0, 7, .inl f4)), (k1, .inr (3, [.ref of, .ref e1, .ref e2, .ref e3, .ref e4])), (e1, .inl (E.2.1 0, 512, .inl c1)), (e2, .inl (E.2.1 0, 512, .inl c2)), (e3, .inl (E.2.1 0, 896, .inl c3)), (e4, .inl (E.2.1 0, 896, .inl c4)), (of, .inr (2, [.ref g1, .ref g2, .ref g3, .ref g4, .ref g5, .int (nI on), .ref g6, .ref g7, .ref g8])), (g1, .inl (E.2.1 0, 7, .inl d1)), (g2, .inl (E.2.1 0, 7, .inl d2)), (g3, .inl (E.2.1 0, 7, .inl d3)), (g4, .inl (E.2.1 0, 7, .inl d4)), (g5, .inl (E.2.1 0, 7, .inl d5)), (g6, .inl (E.2.1 0, 4, .inl d6)), (g7, .inl (E.2.1 0, 4, .inl d7)), (g8, .inl (E.2.1 0, 100, .inl d8))] s.heap := hP
  have hl := lv_entry ([.ref h0]) (n := 1) (Nat.le_of_ble_eq_true rfl)
  rw [lg_entry_eq]
  generalize (lg_sl ([.ref h0]) ++ List.replicate (1 - (lg_sl ([.ref h0])).length) Slot.unset).toArray = ls at hl ⊢
  have hl : lv_has ls 1 [(0, .ref h0)] := hl
  have fl51 := hts (.fieldLink RX11 51 "BoatsHome" "latestPlan" "LBoatsHome$Plan;") (by first | exact List.mem_of_getElem? (i := 1) rfl | decide +kernel)
  have fl198 := hts (.fieldLink RX11 198 "BoatsHome$Plan" "made" "Z") (by first | exact List.mem_of_getElem? (i := 2) rfl | decide +kernel)
  have fl218 := hts (.fieldLink RX11 218 "BoatsHome$Plan" "done" "I") (by first | exact List.mem_of_getElem? (i := 3) rfl | decide +kernel)
  have inX11 : ∀ w ∈ u_ws RX11 TX11 9, w ∈ wsX11_plan := by first | exact fun w h9 => (List.mem_cons_of_mem _ (List.mem_append_left _ (List.mem_append_left _ (List.mem_append_left _ (List.mem_append_right _ h9))))) | decide +kernel
  have inX5 : ∀ w ∈ u_ws RX5 TX5 8, w ∈ wsX11_plan := by first | exact fun w h9 => (List.mem_cons_of_mem _ (List.mem_append_left _ (List.mem_append_left _ (List.mem_append_right _ h9)))) | decide +kernel
  refine lv_aload_n hx hb dX11_plan_0 rfl (lv_at hl 0 rfl) ?_
  refine va_get (D := E.1) (ci := 11) (v := .ref pl) (C := RX11) (T := TX11) (N := 9) hx hb hts inX11 hown hK hP 0 rfl rfl 5 (by decide) fl51 (fun _ h9 => h9) rfl dX11_plan_1 ?_
  refine va_get (D := E.1) (ci := 5) (v := .int md) (C := RX5) (T := TX5) (N := 8) hx hb hts inX5 hown hK hP 1 rfl rfl 5 (by decide) fl198 (fun _ h9 => h9) rfl dX11_plan_4 ?_
  refine lv_if_ne (tgt := 17) hx hb dX11_plan_7 (by decide) (fun c_1 => ?_) (fun c_1 => ?_)
  · refine lv_aload_n hx hb dX11_plan_17 rfl (lv_at hl 0 rfl) ?_
    refine va_get (D := E.1) (ci := 11) (v := .ref pl) (C := RX11) (T := TX11) (N := 9) hx hb hts inX11 hown hK hP 0 rfl rfl 5 (by decide) fl51 (fun _ h9 => h9) rfl dX11_plan_18 ?_
    refine va_get (D := E.1) (ci := 5) (v := .int dn) (C := RX5) (T := TX5) (N := 8) hx hb hts inX5 hown hK hP 1 rfl rfl 6 (by decide) fl218 (fun _ h9 => h9) rfl dX11_plan_21 ?_
    have hP9 := hP.sub (ws' := [(h0, .inr (11, [.ref tp, .ref rd, .ref se, .ref ba, .ref of, .ref pl, .ref sr, .ref sc, .int wk])), (pl, .inr (5, [.ref of, .ref k1, .ref k2, .ref k3, .ref k4, .int md, .int dn, .int fsu])), (k2, .inl (E.2.1 2, 128, .inr (.inl fj))), (k3, .inl (E.2.1 0, 7, .inl f3)), (k4, .inl (E.2.1 0, 7, .inl f4)), (k1, .inr (3, [.ref of, .ref e1, .ref e2, .ref e3, .ref e4])), (e1, .inl (E.2.1 0, 512, .inl c1)), (e2, .inl (E.2.1 0, 512, .inl c2)), (e3, .inl (E.2.1 0, 896, .inl c3)), (e4, .inl (E.2.1 0, 896, .inl c4)), (of, .inr (2, [.ref g1, .ref g2, .ref g3, .ref g4, .ref g5, .int (nI on), .ref g6, .ref g7, .ref g8])), (g1, .inl (E.2.1 0, 7, .inl d1)), (g2, .inl (E.2.1 0, 7, .inl d2)), (g3, .inl (E.2.1 0, 7, .inl d3)), (g4, .inl (E.2.1 0, 7, .inl d4)), (g5, .inl (E.2.1 0, 7, .inl d5)), (g6, .inl (E.2.1 0, 4, .inl d6)), (g7, .inl (E.2.1 0, 4, .inl d7)), (g8, .inl (E.2.1 0, 100, .inl d8))]) [0, 1, 2, 3, 4, 5, 6, 7, 8, 9, 10, 11, 12, 13, 14, 15, 16, 17, 18] rfl
    have hD9 := hD.sub (ws' := [(h0, .inr (11, [.ref tp, .ref rd, .ref se, .ref ba, .ref of, .ref pl, .ref sr, .ref sc, .int wk])), (pl, .inr (5, [.ref of, .ref k1, .ref k2, .ref k3, .ref k4, .int md, .int dn, .int fsu])), (k2, .inl (E.2.1 2, 128, .inr (.inl fj))), (k3, .inl (E.2.1 0, 7, .inl f3)), (k4, .inl (E.2.1 0, 7, .inl f4)), (k1, .inr (3, [.ref of, .ref e1, .ref e2, .ref e3, .ref e4])), (e1, .inl (E.2.1 0, 512, .inl c1)), (e2, .inl (E.2.1 0, 512, .inl c2)), (e3, .inl (E.2.1 0, 896, .inl c3)), (e4, .inl (E.2.1 0, 896, .inl c4)), (of, .inr (2, [.ref g1, .ref g2, .ref g3, .ref g4, .ref g5, .int (nI on), .ref g6, .ref g7, .ref g8])), (g1, .inl (E.2.1 0, 7, .inl d1)), (g2, .inl (E.2.1 0, 7, .inl d2)), (g3, .inl (E.2.1 0, 7, .inl d3)), (g4, .inl (E.2.1 0, 7, .inl d4)), (g5, .inl (E.2.1 0, 7, .inl d5)), (g6, .inl (E.2.1 0, 4, .inl d6)), (g7, .inl (E.2.1 0, 4, .inl d7)), (g8, .inl (E.2.1 0, 100, .inl d8))]) [0, 1, 2, 3, 4, 5, 6, 7, 8, 9, 10, 11, 12, 13, 14, 15, 16, 17, 18] (by decide) rfl
    exact W.iret (v := dn) hx hb hr (fun t ht hW => ⟨⟨dn, (md, dn, fsu, c1, c2, c3, c4, fj, f3, f4), rfl, trivial, by rw [ht]; exact hP9, hD9⟩, hS.F ht⟩) hS.2.2 dX11_plan_24
  · refine lv_aload_n hx hb dX11_plan_10 rfl (lv_at hl 0 rfl) ?_
    refine va_get (D := E.1) (ci := 11) (v := .ref pl) (C := RX11) (T := TX11) (N := 9) hx hb hts inX11 hown hK hP 0 rfl rfl 5 (by decide) fl51 (fun _ h9 => h9) rfl dX11_plan_11 ?_
    have hPc := hP.sub (ws' := [(pl, .inr (5, [.ref of, .ref k1, .ref k2, .ref k3, .ref k4, .int md, .int dn, .int fsu])), (k2, .inl (E.2.1 2, 128, .inr (.inl fj))), (k3, .inl (E.2.1 0, 7, .inl f3)), (k4, .inl (E.2.1 0, 7, .inl f4)), (k1, .inr (3, [.ref of, .ref e1, .ref e2, .ref e3, .ref e4])), (e1, .inl (E.2.1 0, 512, .inl c1)), (e2, .inl (E.2.1 0, 512, .inl c2)), (e3, .inl (E.2.1 0, 896, .inl c3)), (e4, .inl (E.2.1 0, 896, .inl c4)), (of, .inr (2, [.ref g1, .ref g2, .ref g3, .ref g4, .ref g5, .int (nI on), .ref g6, .ref g7, .ref g8])), (g1, .inl (E.2.1 0, 7, .inl d1)), (g2, .inl (E.2.1 0, 7, .inl d2)), (g3, .inl (E.2.1 0, 7, .inl d3)), (g4, .inl (E.2.1 0, 7, .inl d4)), (g5, .inl (E.2.1 0, 7, .inl d5)), (g6, .inl (E.2.1 0, 4, .inl d6)), (g7, .inl (E.2.1 0, 4, .inl d7)), (g8, .inl (E.2.1 0, 100, .inl d8))]) [1, 2, 3, 4, 5, 6, 7, 8, 9, 10, 11, 12, 13, 14, 15, 16, 17, 18] rfl
    have hDc := hD.sub (ws' := [(pl, .inr (5, [.ref of, .ref k1, .ref k2, .ref k3, .ref k4, .int md, .int dn, .int fsu])), (k2, .inl (E.2.1 2, 128, .inr (.inl fj))), (k3, .inl (E.2.1 0, 7, .inl f3)), (k4, .inl (E.2.1 0, 7, .inl f4)), (k1, .inr (3, [.ref of, .ref e1, .ref e2, .ref e3, .ref e4])), (e1, .inl (E.2.1 0, 512, .inl c1)), (e2, .inl (E.2.1 0, 512, .inl c2)), (e3, .inl (E.2.1 0, 896, .inl c3)), (e4, .inl (E.2.1 0, 896, .inl c4)), (of, .inr (2, [.ref g1, .ref g2, .ref g3, .ref g4, .ref g5, .int (nI on), .ref g6, .ref g7, .ref g8])), (g1, .inl (E.2.1 0, 7, .inl d1)), (g2, .inl (E.2.1 0, 7, .inl d2)), (g3, .inl (E.2.1 0, 7, .inl d3)), (g4, .inl (E.2.1 0, 7, .inl d4)), (g5, .inl (E.2.1 0, 7, .inl d5)), (g6, .inl (E.2.1 0, 4, .inl d6)), (g7, .inl (E.2.1 0, 4, .inl d7)), (g8, .inl (E.2.1 0, 100, .inl d8))]) [1, 2, 3, 4, 5, 6, 7, 8, 9, 10, 11, 12, 13, 14, 15, 16, 17, 18] (by decide) rfl
    have hFc := va_free (wc := [(pl, .inr (5, [.ref of, .ref k1, .ref k2, .ref k3, .ref k4, .int md, .int dn, .int fsu])), (k2, .inl (E.2.1 2, 128, .inr (.inl fj))), (k3, .inl (E.2.1 0, 7, .inl f3)), (k4, .inl (E.2.1 0, 7, .inl f4)), (k1, .inr (3, [.ref of, .ref e1, .ref e2, .ref e3, .ref e4])), (e1, .inl (E.2.1 0, 512, .inl c1)), (e2, .inl (E.2.1 0, 512, .inl c2)), (e3, .inl (E.2.1 0, 896, .inl c3)), (e4, .inl (E.2.1 0, 896, .inl c4)), (of, .inr (2, [.ref g1, .ref g2, .ref g3, .ref g4, .ref g5, .int (nI on), .ref g6, .ref g7, .ref g8])), (g1, .inl (E.2.1 0, 7, .inl d1)), (g2, .inl (E.2.1 0, 7, .inl d2)), (g3, .inl (E.2.1 0, 7, .inl d3)), (g4, .inl (E.2.1 0, 7, .inl d4)), (g5, .inl (E.2.1 0, 7, .inl d5)), (g6, .inl (E.2.1 0, 4, .inl d6)), (g7, .inl (E.2.1 0, 4, .inl d7)), (g8, .inl (E.2.1 0, 100, .inl d8))]) hD hS hA [1, 2, 3, 4, 5, 6, 7, 8, 9, 10, 11, 12, 13, 14, 15, 16, 17, 18] rfl
    refine va_callv (va_runV (As := []) (rest := []) ⟨hx, hb, hml, hown, hts⟩ (c_X5_make l E pl of k1 k2 k3 k4 md dn fsu e1 e2 e3 e4 g1 g2 g3 g4 g5 g6 g7 g8 on d1 d2 d3 d4 d5 d6 d7 d8 c1 c2 c3 c4 fj f3 f4 s.heap.size hd1 hon) (cwV 0 hts gX11_plan_X5_make rfl rfl rfl hdV_X5_make ⟨Nat.le_of_ble_eq_true rfl, Nat.le_of_ble_eq_true rfl⟩) ⟨pcW_blind, va_recv hK hPc (ci := 5) (q0 := 0) rfl rfl, (pcW_pre hPc hkn hDc hst hS hFc)⟩ rfl rfl hl.1 rfl (lv_room (Nat.le_of_ble_eq_true rfl)) dX11_plan_14 ⟨Nat.le_of_ble_eq_true rfl, Nat.le_of_ble_eq_true rfl⟩) hS (fun q _ h => hFc q h) hFc (fun u t H1 locs ht hvm hw_3 hB hz1 hk1 hS => ?_)
    obtain ⟨u_4, u_5, u_6, u_7, u_8, u_9, u_10, u_11, u_12⟩ := u
    obtain ⟨hP1, hD1⟩ := hB
    rw [ht] at hP1
    try dsimp only at hw_3
    obtain ⟨hP, hD⟩ := va_join (wr := [(h0, .inr (11, [.ref tp, .ref rd, .ref se, .ref ba, .ref of, .ref pl, .ref sr, .ref sc, .int wk]))]) (w1 := [(pl, .inr (5, [.ref of, .ref k1, .ref k2, .ref k3, .ref k4, .int 1, .int u_4, .int u_5])), (k2, .inl (E.2.1 2, 128, .inr (.inl u_10))), (k3, .inl (E.2.1 0, 7, .inl u_11)), (k4, .inl (E.2.1 0, 7, .inl u_12)), (k1, .inr (3, [.ref of, .ref e1, .ref e2, .ref e3, .ref e4])), (e1, .inl (E.2.1 0, 512, .inl u_6)), (e2, .inl (E.2.1 0, 512, .inl u_7)), (e3, .inl (E.2.1 0, 896, .inl u_8)), (e4, .inl (E.2.1 0, 896, .inl u_9)), (of, .inr (2, [.ref g1, .ref g2, .ref g3, .ref g4, .ref g5, .int (nI on), .ref g6, .ref g7, .ref g8])), (g1, .inl (E.2.1 0, 7, .inl d1)), (g2, .inl (E.2.1 0, 7, .inl d2)), (g3, .inl (E.2.1 0, 7, .inl d3)), (g4, .inl (E.2.1 0, 7, .inl d4)), (g5, .inl (E.2.1 0, 7, .inl d5)), (g6, .inl (E.2.1 0, 4, .inl d6)), (g7, .inl (E.2.1 0, 4, .inl d7)), (g8, .inl (E.2.1 0, 100, .inl d8))]) hP hD [1, 2, 3, 4, 5, 6, 7, 8, 9, 10, 11, 12, 13, 14, 15, 16, 17, 18] [0] rfl rfl (by decide) (by decide) hk1 hFc hP1 hD1
    generalize H1 = H at hP hS ⊢
    have hP : va_P E.1 vwCl [(h0, .inr (11, [.ref tp, .ref rd, .ref se, .ref ba, .ref of, .ref pl, .ref sr, .ref sc, .int wk])), (pl, .inr (5, [.ref of, .ref k1, .ref k2, .ref k3, .ref k4, .int 1, .int u_4, .int u_5])), (k2, .inl (E.2.1 2, 128, .inr (.inl u_10))), (k3, .inl (E.2.1 0, 7, .inl u_11)), (k4, .inl (E.2.1 0, 7, .inl u_12)), (k1, .inr (3, [.ref of, .ref e1, .ref e2, .ref e3, .ref e4])), (e1, .inl (E.2.1 0, 512, .inl u_6)), (e2, .inl (E.2.1 0, 512, .inl u_7)), (e3, .inl (E.2.1 0, 896, .inl u_8)), (e4, .inl (E.2.1 0, 896, .inl u_9)), (of, .inr (2, [.ref g1, .ref g2, .ref g3, .ref g4, .ref g5, .int (nI on), .ref g6, .ref g7, .ref g8])), (g1, .inl (E.2.1 0, 7, .inl d1)), (g2, .inl (E.2.1 0, 7, .inl d2)), (g3, .inl (E.2.1 0, 7, .inl d3)), (g4, .inl (E.2.1 0, 7, .inl d4)), (g5, .inl (E.2.1 0, 7, .inl d5)), (g6, .inl (E.2.1 0, 4, .inl d6)), (g7, .inl (E.2.1 0, 4, .inl d7)), (g8, .inl (E.2.1 0, 100, .inl d8))] H := hP
    have hD : va_D A [(h0, .inr (11, [.ref tp, .ref rd, .ref se, .ref ba, .ref of, .ref pl, .ref sr, .ref sc, .int wk])), (pl, .inr (5, [.ref of, .ref k1, .ref k2, .ref k3, .ref k4, .int 1, .int u_4, .int u_5])), (k2, .inl (E.2.1 2, 128, .inr (.inl u_10))), (k3, .inl (E.2.1 0, 7, .inl u_11)), (k4, .inl (E.2.1 0, 7, .inl u_12)), (k1, .inr (3, [.ref of, .ref e1, .ref e2, .ref e3, .ref e4])), (e1, .inl (E.2.1 0, 512, .inl u_6)), (e2, .inl (E.2.1 0, 512, .inl u_7)), (e3, .inl (E.2.1 0, 896, .inl u_8)), (e4, .inl (E.2.1 0, 896, .inl u_9)), (of, .inr (2, [.ref g1, .ref g2, .ref g3, .ref g4, .ref g5, .int (nI on), .ref g6, .ref g7, .ref g8])), (g1, .inl (E.2.1 0, 7, .inl d1)), (g2, .inl (E.2.1 0, 7, .inl d2)), (g3, .inl (E.2.1 0, 7, .inl d3)), (g4, .inl (E.2.1 0, 7, .inl d4)), (g5, .inl (E.2.1 0, 7, .inl d5)), (g6, .inl (E.2.1 0, 4, .inl d6)), (g7, .inl (E.2.1 0, 4, .inl d7)), (g8, .inl (E.2.1 0, 100, .inl d8))] := hD
    refine lv_aload_n hx hb dX11_plan_17 rfl (lv_at hl 0 rfl) ?_
    refine va_get (D := E.1) (ci := 11) (v := .ref pl) (C := RX11) (T := TX11) (N := 9) hx hb hts inX11 hown hK hP 0 rfl rfl 5 (by decide) fl51 (fun _ h9 => h9) rfl dX11_plan_18 ?_
    refine va_get (D := E.1) (ci := 5) (v := .int u_4) (C := RX5) (T := TX5) (N := 8) hx hb hts inX5 hown hK hP 1 rfl rfl 6 (by decide) fl218 (fun _ h9 => h9) rfl dX11_plan_21 ?_
    have hP9 := hP.sub (ws' := [(h0, .inr (11, [.ref tp, .ref rd, .ref se, .ref ba, .ref of, .ref pl, .ref sr, .ref sc, .int wk])), (pl, .inr (5, [.ref of, .ref k1, .ref k2, .ref k3, .ref k4, .int 1, .int u_4, .int u_5])), (k2, .inl (E.2.1 2, 128, .inr (.inl u_10))), (k3, .inl (E.2.1 0, 7, .inl u_11)), (k4, .inl (E.2.1 0, 7, .inl u_12)), (k1, .inr (3, [.ref of, .ref e1, .ref e2, .ref e3, .ref e4])), (e1, .inl (E.2.1 0, 512, .inl u_6)), (e2, .inl (E.2.1 0, 512, .inl u_7)), (e3, .inl (E.2.1 0, 896, .inl u_8)), (e4, .inl (E.2.1 0, 896, .inl u_9)), (of, .inr (2, [.ref g1, .ref g2, .ref g3, .ref g4, .ref g5, .int (nI on), .ref g6, .ref g7, .ref g8])), (g1, .inl (E.2.1 0, 7, .inl d1)), (g2, .inl (E.2.1 0, 7, .inl d2)), (g3, .inl (E.2.1 0, 7, .inl d3)), (g4, .inl (E.2.1 0, 7, .inl d4)), (g5, .inl (E.2.1 0, 7, .inl d5)), (g6, .inl (E.2.1 0, 4, .inl d6)), (g7, .inl (E.2.1 0, 4, .inl d7)), (g8, .inl (E.2.1 0, 100, .inl d8))]) [0, 1, 2, 3, 4, 5, 6, 7, 8, 9, 10, 11, 12, 13, 14, 15, 16, 17, 18] rfl
    have hD9 := hD.sub (ws' := [(h0, .inr (11, [.ref tp, .ref rd, .ref se, .ref ba, .ref of, .ref pl, .ref sr, .ref sc, .int wk])), (pl, .inr (5, [.ref of, .ref k1, .ref k2, .ref k3, .ref k4, .int 1, .int u_4, .int u_5])), (k2, .inl (E.2.1 2, 128, .inr (.inl u_10))), (k3, .inl (E.2.1 0, 7, .inl u_11)), (k4, .inl (E.2.1 0, 7, .inl u_12)), (k1, .inr (3, [.ref of, .ref e1, .ref e2, .ref e3, .ref e4])), (e1, .inl (E.2.1 0, 512, .inl u_6)), (e2, .inl (E.2.1 0, 512, .inl u_7)), (e3, .inl (E.2.1 0, 896, .inl u_8)), (e4, .inl (E.2.1 0, 896, .inl u_9)), (of, .inr (2, [.ref g1, .ref g2, .ref g3, .ref g4, .ref g5, .int (nI on), .ref g6, .ref g7, .ref g8])), (g1, .inl (E.2.1 0, 7, .inl d1)), (g2, .inl (E.2.1 0, 7, .inl d2)), (g3, .inl (E.2.1 0, 7, .inl d3)), (g4, .inl (E.2.1 0, 7, .inl d4)), (g5, .inl (E.2.1 0, 7, .inl d5)), (g6, .inl (E.2.1 0, 4, .inl d6)), (g7, .inl (E.2.1 0, 4, .inl d7)), (g8, .inl (E.2.1 0, 100, .inl d8))]) [0, 1, 2, 3, 4, 5, 6, 7, 8, 9, 10, 11, 12, 13, 14, 15, 16, 17, 18] (by decide) rfl
    exact W.iret (v := u_4) hx hb hr (fun t ht hW => ⟨⟨u_4, (1, u_4, u_5, u_6, u_7, u_8, u_9, u_10, u_11, u_12), rfl, trivial, by rw [ht]; exact hP9, hD9⟩, hS.F ht⟩) hS.2.2 dX11_plan_24
set_option maxHeartbeats 4000000 in
set_option maxRecDepth 100000 in
theorem c_X11_skipper (l : Launch) (E : vE) (h0 : Nat) (tp : Nat) (rd : Nat) (se : Nat) (ba : Nat) (of : Nat) (pl : Nat) (sr : Nat) (sc : Nat) (wk : Int32) (bo_ : Nat) (sp : Nat) (pa : Nat) (ru : Nat) (co : Nat) (tr : Nat) (lt : Int32) (fb : Nat → Option Nat) (tk : Nat) (fk : Int32) (fq : Int32) (kd : Int32) (sa : Int32) (nu : Int32) (be : Int32) (f : Nat → Int32) (by_ : Nat) (ln : Nat) (t1 : Nat) (t2 : Nat) (t3 : Nat) (t4 : Nat) (sq : Int32) (s1 : Nat) (s2 : Nat) (s3 : Nat) (s4 : Nat) (sz_ : Int32) (r1 : Nat → Int32) (r2 : Nat → Int32) (r3 : Nat → Int32) (r4 : Nat → Int32) (b : Int32) (sz : Nat) (hfb : inR b 0 5 = true → fb b.toNatClampNeg = some bo_) (hln : ln ≤ 800) : Met l yX11_skipper wsX11_skipper ({ frames := 8, cells := 0, slots := 0, locals := 179 }) (pcW E [.ref h0, .int b] sz [(h0, .inr (11, [.ref tp, .ref rd, .ref se, .ref ba, .ref of, .ref pl, .ref sr, .ref sc, .int wk])), (ba, .inl (E.2.1 4, 6, .inr (.inr (.inr (.inr fb))))), (bo_, .inr (0, [.ref sp, .ref pa, .int lt, .ref ru, .ref co, .ref tr])), (ru, .inr (7, [.ref t1, .ref t2, .ref t3, .ref t4, .int sq])), (rd, .inr (6, [.ref tk, .int fk, .int fq])), (tk, .inr (10, [.ref tp, .int kd, .int sa, .int nu, .int be])), (tp, .inr (9, [.ref by_, .int (nI ln)])), (by_, .inl (E.2.1 0, 800, .inl f)), (sr, .inr (7, [.ref s1, .ref s2, .ref s3, .ref s4, .int sz_])), (s1, .inl (E.2.1 0, 12, .inl r1)), (s2, .inl (E.2.1 1, 12, .inl r2)), (s3, .inl (E.2.1 0, 12, .inl r3)), (s4, .inl (E.2.1 0, 12, .inl r4))]) (va_Qi (fun (r : Int32) (u : Nat × Nat × Int32 × Int32 × Int32 × Int32 × Int32 × Int32 × Int32 × (Nat → Int32) × (Nat → Int32) × (Nat → Int32) × (Nat → Int32) × Nat) => match u with | (ru2, sr2, fk2, fq2, kd2, sa2, nu2, be2, sz2, r12, r22, r32, r42, ln2) => True) (fun (u : Nat × Nat × Int32 × Int32 × Int32 × Int32 × Int32 × Int32 × Int32 × (Nat → Int32) × (Nat → Int32) × (Nat → Int32) × (Nat → Int32) × Nat) (t : State) => match u with | (ru2, sr2, fk2, fq2, kd2, sa2, nu2, be2, sz2, r12, r22, r32, r42, ln2) => ((ru2 = ru ∧ sr2 = sr) ∨ (ru2 = sr ∧ sr2 = ru)) ∧ (ln2 ≤ 800) ∧ wB E (va_A [(h0, .inr (11, [.ref tp, .ref rd, .ref se, .ref ba, .ref of, .ref pl, .ref sr, .ref sc, .int wk])), (ba, .inl (E.2.1 4, 6, .inr (.inr (.inr (.inr fb))))), (bo_, .inr (0, [.ref sp, .ref pa, .int lt, .ref ru, .ref co, .ref tr])), (ru, .inr (7, [.ref t1, .ref t2, .ref t3, .ref t4, .int sq])), (rd, .inr (6, [.ref tk, .int fk, .int fq])), (tk, .inr (10, [.ref tp, .int kd, .int sa, .int nu, .int be])), (tp, .inr (9, [.ref by_, .int (nI ln)])), (by_, .inl (E.2.1 0, 800, .inl f)), (sr, .inr (7, [.ref s1, .ref s2, .ref s3, .ref s4, .int sz_])), (s1, .inl (E.2.1 0, 12, .inl r1)), (s2, .inl (E.2.1 1, 12, .inl r2)), (s3, .inl (E.2.1 0, 12, .inl r3)), (s4, .inl (E.2.1 0, 12, .inl r4))] sz) [(h0, .inr (11, [.ref tp, .ref rd, .ref se, .ref ba, .ref of, .ref pl, .ref sr2, .ref sc, .int wk])), (ba, .inl (E.2.1 4, 6, .inr (.inr (.inr (.inr fb))))), (bo_, .inr (0, [.ref sp, .ref pa, .int lt, .ref ru2, .ref co, .ref tr])), (ru, .inr (7, [.ref t1, .ref t2, .ref t3, .ref t4, .int sq])), (rd, .inr (6, [.ref tk, .int fk2, .int fq2])), (tk, .inr (10, [.ref tp, .int kd2, .int sa2, .int nu2, .int be2])), (tp, .inr (9, [.ref by_, .int (nI ln2)])), (by_, .inl (E.2.1 0, 800, .inl f)), (sr, .inr (7, [.ref s1, .ref s2, .ref s3, .ref s4, .int sz2])), (s1, .inl (E.2.1 0, 12, .inl r12)), (s2, .inl (E.2.1 1, 12, .inl r22)), (s3, .inl (E.2.1 0, 12, .inl r32)), (s4, .inl (E.2.1 0, 12, .inl r42))] t) (va_A [(h0, .inr (11, [.ref tp, .ref rd, .ref se, .ref ba, .ref of, .ref pl, .ref sr, .ref sc, .int wk])), (ba, .inl (E.2.1 4, 6, .inr (.inr (.inr (.inr fb))))), (bo_, .inr (0, [.ref sp, .ref pa, .int lt, .ref ru, .ref co, .ref tr])), (ru, .inr (7, [.ref t1, .ref t2, .ref t3, .ref t4, .int sq])), (rd, .inr (6, [.ref tk, .int fk, .int fq])), (tk, .inr (10, [.ref tp, .int kd, .int sa, .int nu, .int be])), (tp, .inr (9, [.ref by_, .int (nI ln)])), (by_, .inl (E.2.1 0, 800, .inl f)), (sr, .inr (7, [.ref s1, .ref s2, .ref s3, .ref s4, .int sz_])), (s1, .inl (E.2.1 0, 12, .inl r1)), (s2, .inl (E.2.1 1, 12, .inl r2)), (s3, .inl (E.2.1 0, 12, .inl r3)), (s4, .inl (E.2.1 0, 12, .inl r4))] sz)) 0 0 (va_A [(h0, .inr (11, [.ref tp, .ref rd, .ref se, .ref ba, .ref of, .ref pl, .ref sr, .ref sc, .int wk])), (ba, .inl (E.2.1 4, 6, .inr (.inr (.inr (.inr fb))))), (bo_, .inr (0, [.ref sp, .ref pa, .int lt, .ref ru, .ref co, .ref tr])), (ru, .inr (7, [.ref t1, .ref t2, .ref t3, .ref t4, .int sq])), (rd, .inr (6, [.ref tk, .int fk, .int fq])), (tk, .inr (10, [.ref tp, .int kd, .int sa, .int nu, .int be])), (tp, .inr (9, [.ref by_, .int (nI ln)])), (by_, .inl (E.2.1 0, 800, .inl f)), (sr, .inr (7, [.ref s1, .ref s2, .ref s3, .ref s4, .int sz_])), (s1, .inl (E.2.1 0, 12, .inl r1)), (s2, .inl (E.2.1 1, 12, .inl r2)), (s3, .inl (E.2.1 0, 12, .inl r3)), (s4, .inl (E.2.1 0, 12, .inl r4))] sz) := by
  refine Met.ofW (cc := cX11_skipper) (maxL := 4) (ret := (some .int)) (by decide) rfl ?_
  intro p e s m args below meth c s₁ B hml hv
  obtain ⟨rfl, hsz, hP, hkn, hD0, hst⟩ := hv
  have hx := B.exec
  have hb := B.bytes
  have hr := B.returns
  have hts := atoms_spec (ws := wsX11_skipper) B.pre
  have hown : s.vm.findClass RX11 = some m.cls := findClass_of_methodNamed B.named
  have hlocks := B.notSynchronized
  subst hsz
  have hD := hD0.self (sz := s.heap.size)
  have hK := hkn.1
  have hAO := hkn.2.2.1
  generalize hAe : va_A [(h0, .inr (11, [.ref tp, .ref rd, .ref se, .ref ba, .ref of, .ref pl, .ref sr, .ref sc, .int wk])), (ba, .inl (E.2.1 4, 6, .inr (.inr (.inr (.inr fb))))), (bo_, .inr (0, [.ref sp, .ref pa, .int lt, .ref ru, .ref co, .ref tr])), (ru, .inr (7, [.ref t1, .ref t2, .ref t3, .ref t4, .int sq])), (rd, .inr (6, [.ref tk, .int fk, .int fq])), (tk, .inr (10, [.ref tp, .int kd, .int sa, .int nu, .int be])), (tp, .inr (9, [.ref by_, .int (nI ln)])), (by_, .inl (E.2.1 0, 800, .inl f)), (sr, .inr (7, [.ref s1, .ref s2, .ref s3, .ref s4, .int sz_])), (s1, .inl (E.2.1 0, 12, .inl r1)), (s2, .inl (E.2.1 1, 12, .inl r2)), (s3, .inl (E.2.1 0, 12, .inl r3)), (s4, .inl (E.2.1 0, 12, .inl r4))] s.heap.size = A at hD hst ⊢
  have hA : ∀ q : Nat, s.heap.size ≤ q → A q := fun q h => by rw [← hAe]; exact Or.inr h
  have hS : va_S A s.heap s.heap [] := va_S.rf
  have hP : va_P E.1 vwCl [(h0, .inr (11, [.ref tp, .ref rd, .ref se, .ref ba, .ref of, .ref pl, .ref sr, .ref sc, .int wk])), (ba, .inl (E.2.1 4, 6, .inr (.inr (.inr (.inr fb))))), (bo_, .inr (0, [.ref sp, .ref pa, .int lt, .ref ru, .ref co, .ref tr])), (ru, .inr (7, [.ref t1, .ref t2, .ref t3, .ref t4, .int sq])), (rd, .inr (6, [.ref tk, .int fk, .int fq])), (tk, .inr (10, [.ref tp, .int kd, .int sa, .int nu, .int be])), (tp, .inr (9, [.ref by_, .int (nI ln)])), (by_, .inl (E.2.1 0, 800, .inl f)), (sr, .inr (7, [.ref s1, .ref s2, .ref s3, .ref s4, .int sz_])), (s1, .inl (E.2.1 0, 12, .inl r1)), (s2, .inl (E.2.1 1, 12, .inl r2)), (s3, .inl (E.2.1 0, 12, .inl r3)), (s4, .inl (E.2.1 0, 12, .inl r4))] s.heap := hP
  have hl := lv_entry ([.ref h0, .int b]) (n := 4) (Nat.le_of_ble_eq_true rfl)
  rw [lg_entry_eq]
  generalize (lg_sl ([.ref h0, .int b]) ++ List.replicate (4 - (lg_sl ([.ref h0, .int b])).length) Slot.unset).toArray = ls at hl ⊢
  have hl : lv_has ls 4 [(0, .ref h0), (1, .int b)] := hl
  have fl10 := hts (.fieldLink RX11 10 "BoatsHome" "tape" "LBoatsHome$Tape;") (by first | exact List.mem_of_getElem? (i := 3) rfl | decide +kernel)
  have fl21 := hts (.fieldLink RX11 21 "BoatsHome" "reader" "LBoatsHome$Reader;") (by first | exact List.mem_of_getElem? (i := 1) rfl | decide +kernel)
  have fl34 := hts (.fieldLink RX11 34 "BoatsHome" "boats" "[LBoatsHome$Boat;") (by first | exact List.mem_of_getElem? (i := 5) rfl | decide +kernel)
  have fl58 := hts (.fieldLink RX11 58 "BoatsHome" "spareRules" "LBoatsHome$Rules;") (by first | exact List.mem_of_getElem? (i := 2) rfl | decide +kernel)
  have fl73 := hts (.fieldLink RX11 73 "BoatsHome$Tape" "length" "I") (by first | exact List.mem_of_getElem? (i := 4) rfl | decide +kernel)
  have fl118 := hts (.fieldLink RX11 118 "BoatsHome$Boat" "rules" "LBoatsHome$Rules;") (by first | exact List.mem_of_getElem? (i := 6) rfl | decide +kernel)
  have fl121 := hts (.fieldLink RX11 121 "BoatsHome$Rules" "size" "I") (by first | exact List.mem_of_getElem? (i := 7) rfl | decide +kernel)
  have inX0 : ∀ w ∈ u_ws RX0 TX0 6, w ∈ wsX11_skipper := by first | exact fun w h9 => (List.mem_cons_of_mem _ (List.mem_append_left _ (List.mem_append_left _ (List.mem_append_left _ (List.mem_append_right _ h9))))) | decide +kernel
  have inX11 : ∀ w ∈ u_ws RX11 TX11 9, w ∈ wsX11_skipper := by first | exact fun w h9 => (List.mem_cons_of_mem _ (List.mem_append_left _ (List.mem_append_left _ (List.mem_append_left _ (List.mem_append_left _ (List.mem_append_left _ (List.mem_append_right _ h9))))))) | decide +kernel
  have inX7 : ∀ w ∈ u_ws RX7 TX7 5, w ∈ wsX11_skipper := by first | exact fun w h9 => (List.mem_cons_of_mem _ (List.mem_append_left _ (List.mem_append_left _ (List.mem_append_right _ h9)))) | decide +kernel
  have inX9 : ∀ w ∈ u_ws RX9 TX9 2, w ∈ wsX11_skipper := by first | exact fun w h9 => (List.mem_cons_of_mem _ (List.mem_append_left _ (List.mem_append_left _ (List.mem_append_left _ (List.mem_append_left _ (List.mem_append_right _ h9)))))) | decide +kernel
  refine lv_iload_n hx hb dX11_skipper_0 rfl (lv_at hl 1 rfl) ?_
  refine lv_bipush (v := 6) hx hb dX11_skipper_1 (by decide) ?_
  have hPc := hP.sub (ws' := []) [] rfl
  have hDc := hD.sub (ws' := []) [] (by decide) rfl
  have hFc := va_free (wc := []) hD hS hA [] rfl
  refine va_calli (va_runS (As := [.int b, .int 6]) (rest := []) ⟨hx, hb, hml, hown, hts⟩ (c_X11_below l E b 6 5 s.heap.size (lt_le (by decide))) (va_cwS 2 hts gX11_skipper_X11_below rfl rfl rfl hdS_X11_below ⟨Nat.le_of_ble_eq_true rfl, Nat.le_of_ble_eq_true rfl⟩) ⟨pcW_blind, (pcW_pre hPc hkn hDc hst hS hFc)⟩ rfl rfl hl.1 rfl (lv_room (Nat.le_of_ble_eq_true rfl)) dX11_skipper_3 ⟨Nat.le_of_ble_eq_true rfl, Nat.le_of_ble_eq_true rfl⟩) hS (fun q _ h => hFc q h) hFc (fun r_1 u t H1 locs ht hvm hw_2 hB hz1 hk1 hS => ?_)
  obtain ⟨hP1, hD1⟩ := hB
  rw [ht] at hP1
  try dsimp only at hw_2
  obtain ⟨hP, hD⟩ := va_join (wr := [(h0, .inr (11, [.ref tp, .ref rd, .ref se, .ref ba, .ref of, .ref pl, .ref sr, .ref sc, .int wk])), (ba, .inl (E.2.1 4, 6, .inr (.inr (.inr (.inr fb))))), (bo_, .inr (0, [.ref sp, .ref pa, .int lt, .ref ru, .ref co, .ref tr])), (ru, .inr (7, [.ref t1, .ref t2, .ref t3, .ref t4, .int sq])), (rd, .inr (6, [.ref tk, .int fk, .int fq])), (tk, .inr (10, [.ref tp, .int kd, .int sa, .int nu, .int be])), (tp, .inr (9, [.ref by_, .int (nI ln)])), (by_, .inl (E.2.1 0, 800, .inl f)), (sr, .inr (7, [.ref s1, .ref s2, .ref s3, .ref s4, .int sz_])), (s1, .inl (E.2.1 0, 12, .inl r1)), (s2, .inl (E.2.1 1, 12, .inl r2)), (s3, .inl (E.2.1 0, 12, .inl r3)), (s4, .inl (E.2.1 0, 12, .inl r4))]) (w1 := []) hP hD [] [0, 1, 2, 3, 4, 5, 6, 7, 8, 9, 10, 11, 12] rfl rfl (by decide) (by decide) hk1 hFc hP1 hD1
  generalize H1 = H at hP hS ⊢
  have hP : va_P E.1 vwCl [(h0, .inr (11, [.ref tp, .ref rd, .ref se, .ref ba, .ref of, .ref pl, .ref sr, .ref sc, .int wk])), (ba, .inl (E.2.1 4, 6, .inr (.inr (.inr (.inr fb))))), (bo_, .inr (0, [.ref sp, .ref pa, .int lt, .ref ru, .ref co, .ref tr])), (ru, .inr (7, [.ref t1, .ref t2, .ref t3, .ref t4, .int sq])), (rd, .inr (6, [.ref tk, .int fk, .int fq])), (tk, .inr (10, [.ref tp, .int kd, .int sa, .int nu, .int be])), (tp, .inr (9, [.ref by_, .int (nI ln)])), (by_, .inl (E.2.1 0, 800, .inl f)), (sr, .inr (7, [.ref s1, .ref s2, .ref s3, .ref s4, .int sz_])), (s1, .inl (E.2.1 0, 12, .inl r1)), (s2, .inl (E.2.1 1, 12, .inl r2)), (s3, .inl (E.2.1 0, 12, .inl r3)), (s4, .inl (E.2.1 0, 12, .inl r4))] H := hP
  have hD : va_D A [(h0, .inr (11, [.ref tp, .ref rd, .ref se, .ref ba, .ref of, .ref pl, .ref sr, .ref sc, .int wk])), (ba, .inl (E.2.1 4, 6, .inr (.inr (.inr (.inr fb))))), (bo_, .inr (0, [.ref sp, .ref pa, .int lt, .ref ru, .ref co, .ref tr])), (ru, .inr (7, [.ref t1, .ref t2, .ref t3, .ref t4, .int sq])), (rd, .inr (6, [.ref tk, .int fk, .int fq])), (tk, .inr (10, [.ref tp, .int kd, .int sa, .int nu, .int be])), (tp, .inr (9, [.ref by_, .int (nI ln)])), (by_, .inl (E.2.1 0, 800, .inl f)), (sr, .inr (7, [.ref s1, .ref s2, .ref s3, .ref s4, .int sz_])), (s1, .inl (E.2.1 0, 12, .inl r1)), (s2, .inl (E.2.1 1, 12, .inl r2)), (s3, .inl (E.2.1 0, 12, .inl r3)), (s4, .inl (E.2.1 0, 12, .inl r4))] := hD
  refine lv_if_ne (tgt := 12) hx hb dX11_skipper_6 (by decide) (fun c_3 => ?_) (fun c_3 => ?_)
  · have b_4 : inR b 0 5 = true := bn hw_2 c_3
    refine lv_aload_n hx hb dX11_skipper_12 rfl (lv_at hl 0 rfl) ?_
    refine va_get (D := E.1) (ci := 11) (v := .ref rd) (C := RX11) (T := TX11) (N := 9) hx hb hts inX11 hown hK hP 0 rfl rfl 1 (by decide) fl21 (fun _ h9 => h9) rfl dX11_skipper_13 ?_
    refine lv_aload_n hx hb dX11_skipper_16 rfl (lv_at hl 0 rfl) ?_
    refine va_get (D := E.1) (ci := 11) (v := .ref sr) (C := RX11) (T := TX11) (N := 9) hx hb hts inX11 hown hK hP 0 rfl rfl 6 (by decide) fl58 (fun _ h9 => h9) rfl dX11_skipper_17 ?_
    have hPc := hP.sub (ws' := [(rd, .inr (6, [.ref tk, .int fk, .int fq])), (tk, .inr (10, [.ref tp, .int kd, .int sa, .int nu, .int be])), (tp, .inr (9, [.ref by_, .int (nI ln)])), (by_, .inl (E.2.1 0, 800, .inl f)), (sr, .inr (7, [.ref s1, .ref s2, .ref s3, .ref s4, .int sz_])), (s1, .inl (E.2.1 0, 12, .inl r1)), (s2, .inl (E.2.1 1, 12, .inl r2)), (s3, .inl (E.2.1 0, 12, .inl r3)), (s4, .inl (E.2.1 0, 12, .inl r4))]) [4, 5, 6, 7, 8, 9, 10, 11, 12] rfl
    have hDc := hD.sub (ws' := [(rd, .inr (6, [.ref tk, .int fk, .int fq])), (tk, .inr (10, [.ref tp, .int kd, .int sa, .int nu, .int be])), (tp, .inr (9, [.ref by_, .int (nI ln)])), (by_, .inl (E.2.1 0, 800, .inl f)), (sr, .inr (7, [.ref s1, .ref s2, .ref s3, .ref s4, .int sz_])), (s1, .inl (E.2.1 0, 12, .inl r1)), (s2, .inl (E.2.1 1, 12, .inl r2)), (s3, .inl (E.2.1 0, 12, .inl r3)), (s4, .inl (E.2.1 0, 12, .inl r4))]) [4, 5, 6, 7, 8, 9, 10, 11, 12] (by decide) rfl
    have hFc := va_free (wc := [(rd, .inr (6, [.ref tk, .int fk, .int fq])), (tk, .inr (10, [.ref tp, .int kd, .int sa, .int nu, .int be])), (tp, .inr (9, [.ref by_, .int (nI ln)])), (by_, .inl (E.2.1 0, 800, .inl f)), (sr, .inr (7, [.ref s1, .ref s2, .ref s3, .ref s4, .int sz_])), (s1, .inl (E.2.1 0, 12, .inl r1)), (s2, .inl (E.2.1 1, 12, .inl r2)), (s3, .inl (E.2.1 0, 12, .inl r3)), (s4, .inl (E.2.1 0, 12, .inl r4))]) hD hS hA [4, 5, 6, 7, 8, 9, 10, 11, 12] rfl
    refine va_calli (va_runV (As := [.ref sr]) (rest := []) ⟨hx, hb, hml, hown, hts⟩ (c_X6_readRules l E rd tk tp by_ fk fq kd sa nu be (nI ln) f sr s1 s2 s3 s4 sz_ r1 r2 r3 r4 H.size ) (cwV 1 hts gX11_skipper_X6_readRules rfl rfl rfl hdV_X6_readRules ⟨Nat.le_of_ble_eq_true rfl, Nat.le_of_ble_eq_true rfl⟩) ⟨pcW_blind, va_recv hK hPc (ci := 6) (q0 := 0) rfl rfl, (pcW_pre hPc hkn hDc hst hS hFc)⟩ rfl rfl hl.1 rfl (lv_room (Nat.le_of_ble_eq_true rfl)) dX11_skipper_20 ⟨Nat.le_of_ble_eq_true rfl, Nat.le_of_ble_eq_true rfl⟩) hS (fun q _ h => hFc q h) hFc (fun r_5 u t H1 locs ht hvm hw_6 hB hz1 hk1 hS => ?_)
    obtain ⟨u_7, u_8, u_9, u_10, u_11, u_12, u_13, u_14, u_15, u_16, u_17⟩ := u
    obtain ⟨hP1, hD1⟩ := hB
    rw [ht] at hP1
    try dsimp only at hw_6
    obtain ⟨hP, hD⟩ := va_join (wr := [(h0, .inr (11, [.ref tp, .ref rd, .ref se, .ref ba, .ref of, .ref pl, .ref sr, .ref sc, .int wk])), (ba, .inl (E.2.1 4, 6, .inr (.inr (.inr (.inr fb))))), (bo_, .inr (0, [.ref sp, .ref pa, .int lt, .ref ru, .ref co, .ref tr])), (ru, .inr (7, [.ref t1, .ref t2, .ref t3, .ref t4, .int sq]))]) (w1 := [(rd, .inr (6, [.ref tk, .int u_7, .int u_8])), (tk, .inr (10, [.ref tp, .int u_9, .int u_10, .int u_11, .int u_12])), (tp, .inr (9, [.ref by_, .int (nI ln)])), (by_, .inl (E.2.1 0, 800, .inl f)), (sr, .inr (7, [.ref s1, .ref s2, .ref s3, .ref s4, .int u_13])), (s1, .inl (E.2.1 0, 12, .inl u_14)), (s2, .inl (E.2.1 1, 12, .inl u_15)), (s3, .inl (E.2.1 0, 12, .inl u_16)), (s4, .inl (E.2.1 0, 12, .inl u_17))]) hP hD [4, 5, 6, 7, 8, 9, 10, 11, 12] [0, 1, 2, 3] rfl rfl (by decide) (by decide) hk1 hFc hP1 hD1
    generalize H1 = H at hP hS ⊢
    have hP : va_P E.1 vwCl [(h0, .inr (11, [.ref tp, .ref rd, .ref se, .ref ba, .ref of, .ref pl, .ref sr, .ref sc, .int wk])), (ba, .inl (E.2.1 4, 6, .inr (.inr (.inr (.inr fb))))), (bo_, .inr (0, [.ref sp, .ref pa, .int lt, .ref ru, .ref co, .ref tr])), (ru, .inr (7, [.ref t1, .ref t2, .ref t3, .ref t4, .int sq])), (rd, .inr (6, [.ref tk, .int u_7, .int u_8])), (tk, .inr (10, [.ref tp, .int u_9, .int u_10, .int u_11, .int u_12])), (tp, .inr (9, [.ref by_, .int (nI ln)])), (by_, .inl (E.2.1 0, 800, .inl f)), (sr, .inr (7, [.ref s1, .ref s2, .ref s3, .ref s4, .int u_13])), (s1, .inl (E.2.1 0, 12, .inl u_14)), (s2, .inl (E.2.1 1, 12, .inl u_15)), (s3, .inl (E.2.1 0, 12, .inl u_16)), (s4, .inl (E.2.1 0, 12, .inl u_17))] H := hP
    have hD : va_D A [(h0, .inr (11, [.ref tp, .ref rd, .ref se, .ref ba, .ref of, .ref pl, .ref sr, .ref sc, .int wk])), (ba, .inl (E.2.1 4, 6, .inr (.inr (.inr (.inr fb))))), (bo_, .inr (0, [.ref sp, .ref pa, .int lt, .ref ru, .ref co, .ref tr])), (ru, .inr (7, [.ref t1, .ref t2, .ref t3, .ref t4, .int sq])), (rd, .inr (6, [.ref tk, .int u_7, .int u_8])), (tk, .inr (10, [.ref tp, .int u_9, .int u_10, .int u_11, .int u_12])), (tp, .inr (9, [.ref by_, .int (nI ln)])), (by_, .inl (E.2.1 0, 800, .inl f)), (sr, .inr (7, [.ref s1, .ref s2, .ref s3, .ref s4, .int u_13])), (s1, .inl (E.2.1 0, 12, .inl u_14)), (s2, .inl (E.2.1 1, 12, .inl u_15)), (s3, .inl (E.2.1 0, 12, .inl u_16)), (s4, .inl (E.2.1 0, 12, .inl u_17))] := hD
    refine lv_istore_n (lv' := [(2, .int r_5), (0, .ref h0), (1, .int b)]) hx hb dX11_skipper_23 rfl hl (by decide) rfl (fun ls hl => ?_)
    refine lv_aload_n hx hb dX11_skipper_24 rfl (lv_at hl 1 rfl) ?_
    refine va_get (D := E.1) (ci := 11) (v := .ref tp) (C := RX11) (T := TX11) (N := 9) hx hb hts inX11 hown hK hP 0 rfl rfl 0 (by decide) fl10 (fun _ h9 => h9) rfl dX11_skipper_25 ?_
    refine lv_iconst (v := 0) hx hb dX11_skipper_28 (by decide) ?_
    refine va_put (D := E.1) (ci := 9) (v := .int 0) (ty := .int) (C := RX9) (T := TX9) (N := 2) hx hb hts inX9 tyX9 tyX9_ok nmX9 hown hK hP hD hS 6 rfl rfl 1 (by decide) fl73 (fun _ h9 => h9) rfl (by decide +kernel) rfl rfl (Nat.le_of_ble_eq_true rfl) dX11_skipper_29 (fun H locs hP hD hS => ?_)
    have hP : va_P E.1 vwCl [(h0, .inr (11, [.ref tp, .ref rd, .ref se, .ref ba, .ref of, .ref pl, .ref sr, .ref sc, .int wk])), (ba, .inl (E.2.1 4, 6, .inr (.inr (.inr (.inr fb))))), (bo_, .inr (0, [.ref sp, .ref pa, .int lt, .ref ru, .ref co, .ref tr])), (ru, .inr (7, [.ref t1, .ref t2, .ref t3, .ref t4, .int sq])), (rd, .inr (6, [.ref tk, .int u_7, .int u_8])), (tk, .inr (10, [.ref tp, .int u_9, .int u_10, .int u_11, .int u_12])), (tp, .inr (9, [.ref by_, .int 0])), (by_, .inl (E.2.1 0, 800, .inl f)), (sr, .inr (7, [.ref s1, .ref s2, .ref s3, .ref s4, .int u_13])), (s1, .inl (E.2.1 0, 12, .inl u_14)), (s2, .inl (E.2.1 1, 12, .inl u_15)), (s3, .inl (E.2.1 0, 12, .inl u_16)), (s4, .inl (E.2.1 0, 12, .inl u_17))] H := hP
    have hD : va_D A [(h0, .inr (11, [.ref tp, .ref rd, .ref se, .ref ba, .ref of, .ref pl, .ref sr, .ref sc, .int wk])), (ba, .inl (E.2.1 4, 6, .inr (.inr (.inr (.inr fb))))), (bo_, .inr (0, [.ref sp, .ref pa, .int lt, .ref ru, .ref co, .ref tr])), (ru, .inr (7, [.ref t1, .ref t2, .ref t3, .ref t4, .int sq])), (rd, .inr (6, [.ref tk, .int u_7, .int u_8])), (tk, .inr (10, [.ref tp, .int u_9, .int u_10, .int u_11, .int u_12])), (tp, .inr (9, [.ref by_, .int 0])), (by_, .inl (E.2.1 0, 800, .inl f)), (sr, .inr (7, [.ref s1, .ref s2, .ref s3, .ref s4, .int u_13])), (s1, .inl (E.2.1 0, 12, .inl u_14)), (s2, .inl (E.2.1 1, 12, .inl u_15)), (s3, .inl (E.2.1 0, 12, .inl u_16)), (s4, .inl (E.2.1 0, 12, .inl u_17))] := hD
    refine lv_iload_n hx hb dX11_skipper_32 rfl (lv_at hl 0 rfl) ?_
    refine lv_if_ne (tgt := 38) hx hb dX11_skipper_33 (by decide) (fun c_18 => ?_) (fun c_18 => ?_)
    · refine lv_aload_n hx hb dX11_skipper_38 rfl (lv_at hl 1 rfl) ?_
      refine va_get (D := E.1) (ci := 11) (v := .ref ba) (C := RX11) (T := TX11) (N := 9) hx hb hts inX11 hown hK hP 0 rfl rfl 3 (by decide) fl34 (fun _ h9 => h9) rfl dX11_skipper_39 ?_
      refine lv_iload_n hx hb dX11_skipper_42 rfl (lv_at hl 2 rfl) ?_
      have hi_19 : vp_in b 6 := inR_in (by decide) b_4
      refine va_aldq hx hb hK hP 1 4 rfl rfl hi_19 dX11_skipper_43 ?_
      rw [show va_rf (fb b.toNatClampNeg) = .ref bo_ from by rw [hfb b_4]; rfl]
      refine va_get (D := E.1) (ci := 0) (v := .ref ru) (C := RX0) (T := TX0) (N := 6) hx hb hts inX0 hown hK hP 2 rfl rfl 3 (by decide) fl118 (fun _ h9 => h9) rfl dX11_skipper_44 ?_
      refine lv_astore_n (lv' := [(3, .ref ru), (2, .int r_5), (0, .ref h0), (1, .int b)]) hx hb dX11_skipper_47 rfl hl (by decide) rfl (fun ls hl => ?_)
      refine lv_aload_n hx hb dX11_skipper_48 rfl (lv_at hl 2 rfl) ?_
      refine va_get (D := E.1) (ci := 11) (v := .ref ba) (C := RX11) (T := TX11) (N := 9) hx hb hts inX11 hown hK hP 0 rfl rfl 3 (by decide) fl34 (fun _ h9 => h9) rfl dX11_skipper_49 ?_
      refine lv_iload_n hx hb dX11_skipper_52 rfl (lv_at hl 3 rfl) ?_
      refine va_aldq hx hb hK hP 1 4 rfl rfl hi_19 dX11_skipper_53 ?_
      rw [show va_rf (fb b.toNatClampNeg) = .ref bo_ from by rw [hfb b_4]; rfl]
      refine lv_aload_n hx hb dX11_skipper_54 rfl (lv_at hl 2 rfl) ?_
      refine va_get (D := E.1) (ci := 11) (v := .ref sr) (C := RX11) (T := TX11) (N := 9) hx hb hts inX11 hown hK hP 0 rfl rfl 6 (by decide) fl58 (fun _ h9 => h9) rfl dX11_skipper_55 ?_
      refine va_put (D := E.1) (ci := 0) (v := .ref sr) (ty := .object "BoatsHome$Rules") (C := RX0) (T := TX0) (N := 6) hx hb hts inX0 tyX0 tyX0_ok nmX0 hown hK hP hD hS 2 rfl rfl 3 (by decide) fl118 (fun _ h9 => h9) rfl (by decide +kernel) rfl rfl (Nat.le_of_ble_eq_true rfl) dX11_skipper_58 (fun H locs hP hD hS => ?_)
      have hP : va_P E.1 vwCl [(h0, .inr (11, [.ref tp, .ref rd, .ref se, .ref ba, .ref of, .ref pl, .ref sr, .ref sc, .int wk])), (ba, .inl (E.2.1 4, 6, .inr (.inr (.inr (.inr fb))))), (bo_, .inr (0, [.ref sp, .ref pa, .int lt, .ref sr, .ref co, .ref tr])), (ru, .inr (7, [.ref t1, .ref t2, .ref t3, .ref t4, .int sq])), (rd, .inr (6, [.ref tk, .int u_7, .int u_8])), (tk, .inr (10, [.ref tp, .int u_9, .int u_10, .int u_11, .int u_12])), (tp, .inr (9, [.ref by_, .int 0])), (by_, .inl (E.2.1 0, 800, .inl f)), (sr, .inr (7, [.ref s1, .ref s2, .ref s3, .ref s4, .int u_13])), (s1, .inl (E.2.1 0, 12, .inl u_14)), (s2, .inl (E.2.1 1, 12, .inl u_15)), (s3, .inl (E.2.1 0, 12, .inl u_16)), (s4, .inl (E.2.1 0, 12, .inl u_17))] H := hP
      have hD : va_D A [(h0, .inr (11, [.ref tp, .ref rd, .ref se, .ref ba, .ref of, .ref pl, .ref sr, .ref sc, .int wk])), (ba, .inl (E.2.1 4, 6, .inr (.inr (.inr (.inr fb))))), (bo_, .inr (0, [.ref sp, .ref pa, .int lt, .ref sr, .ref co, .ref tr])), (ru, .inr (7, [.ref t1, .ref t2, .ref t3, .ref t4, .int sq])), (rd, .inr (6, [.ref tk, .int u_7, .int u_8])), (tk, .inr (10, [.ref tp, .int u_9, .int u_10, .int u_11, .int u_12])), (tp, .inr (9, [.ref by_, .int 0])), (by_, .inl (E.2.1 0, 800, .inl f)), (sr, .inr (7, [.ref s1, .ref s2, .ref s3, .ref s4, .int u_13])), (s1, .inl (E.2.1 0, 12, .inl u_14)), (s2, .inl (E.2.1 1, 12, .inl u_15)), (s3, .inl (E.2.1 0, 12, .inl u_16)), (s4, .inl (E.2.1 0, 12, .inl u_17))] := hD
      refine lv_aload_n hx hb dX11_skipper_61 rfl (lv_at hl 2 rfl) ?_
      refine lv_aload_n hx hb dX11_skipper_62 rfl (lv_at hl 0 rfl) ?_
      refine va_put (D := E.1) (ci := 11) (v := .ref ru) (ty := .object "BoatsHome$Rules") (C := RX11) (T := TX11) (N := 9) hx hb hts inX11 tyX11 tyX11_ok nmX11 hown hK hP hD hS 0 rfl rfl 6 (by decide) fl58 (fun _ h9 => h9) rfl (by decide +kernel) rfl rfl (Nat.le_of_ble_eq_true rfl) dX11_skipper_63 (fun H locs hP hD hS => ?_)
      have hP : va_P E.1 vwCl [(h0, .inr (11, [.ref tp, .ref rd, .ref se, .ref ba, .ref of, .ref pl, .ref ru, .ref sc, .int wk])), (ba, .inl (E.2.1 4, 6, .inr (.inr (.inr (.inr fb))))), (bo_, .inr (0, [.ref sp, .ref pa, .int lt, .ref sr, .ref co, .ref tr])), (ru, .inr (7, [.ref t1, .ref t2, .ref t3, .ref t4, .int sq])), (rd, .inr (6, [.ref tk, .int u_7, .int u_8])), (tk, .inr (10, [.ref tp, .int u_9, .int u_10, .int u_11, .int u_12])), (tp, .inr (9, [.ref by_, .int 0])), (by_, .inl (E.2.1 0, 800, .inl f)), (sr, .inr (7, [.ref s1, .ref s2, .ref s3, .ref s4, .int u_13])), (s1, .inl (E.2.1 0, 12, .inl u_14)), (s2, .inl (E.2.1 1, 12, .inl u_15)), (s3, .inl (E.2.1 0, 12, .inl u_16)), (s4, .inl (E.2.1 0, 12, .inl u_17))] H := hP
      have hD : va_D A [(h0, .inr (11, [.ref tp, .ref rd, .ref se, .ref ba, .ref of, .ref pl, .ref ru, .ref sc, .int wk])), (ba, .inl (E.2.1 4, 6, .inr (.inr (.inr (.inr fb))))), (bo_, .inr (0, [.ref sp, .ref pa, .int lt, .ref sr, .ref co, .ref tr])), (ru, .inr (7, [.ref t1, .ref t2, .ref t3, .ref t4, .int sq])), (rd, .inr (6, [.ref tk, .int u_7, .int u_8])), (tk, .inr (10, [.ref tp, .int u_9, .int u_10, .int u_11, .int u_12])), (tp, .inr (9, [.ref by_, .int 0])), (by_, .inl (E.2.1 0, 800, .inl f)), (sr, .inr (7, [.ref s1, .ref s2, .ref s3, .ref s4, .int u_13])), (s1, .inl (E.2.1 0, 12, .inl u_14)), (s2, .inl (E.2.1 1, 12, .inl u_15)), (s3, .inl (E.2.1 0, 12, .inl u_16)), (s4, .inl (E.2.1 0, 12, .inl u_17))] := hD
      refine lv_aload_n hx hb dX11_skipper_66 rfl (lv_at hl 2 rfl) ?_
      refine va_get (D := E.1) (ci := 11) (v := .ref ba) (C := RX11) (T := TX11) (N := 9) hx hb hts inX11 hown hK hP 0 rfl rfl 3 (by decide) fl34 (fun _ h9 => h9) rfl dX11_skipper_67 ?_
      refine lv_iload_n hx hb dX11_skipper_70 rfl (lv_at hl 3 rfl) ?_
      refine va_aldq hx hb hK hP 1 4 rfl rfl hi_19 dX11_skipper_71 ?_
      rw [show va_rf (fb b.toNatClampNeg) = .ref bo_ from by rw [hfb b_4]; rfl]
      refine va_get (D := E.1) (ci := 0) (v := .ref sr) (C := RX0) (T := TX0) (N := 6) hx hb hts inX0 hown hK hP 2 rfl rfl 3 (by decide) fl118 (fun _ h9 => h9) rfl dX11_skipper_72 ?_
      refine va_get (D := E.1) (ci := 7) (v := .int u_13) (C := RX7) (T := TX7) (N := 5) hx hb hts inX7 hown hK hP 8 rfl rfl 4 (by decide) fl121 (fun _ h9 => h9) rfl dX11_skipper_75 ?_
      have hP9 := hP.sub (ws' := [(h0, .inr (11, [.ref tp, .ref rd, .ref se, .ref ba, .ref of, .ref pl, .ref ru, .ref sc, .int wk])), (ba, .inl (E.2.1 4, 6, .inr (.inr (.inr (.inr fb))))), (bo_, .inr (0, [.ref sp, .ref pa, .int lt, .ref sr, .ref co, .ref tr])), (ru, .inr (7, [.ref t1, .ref t2, .ref t3, .ref t4, .int sq])), (rd, .inr (6, [.ref tk, .int u_7, .int u_8])), (tk, .inr (10, [.ref tp, .int u_9, .int u_10, .int u_11, .int u_12])), (tp, .inr (9, [.ref by_, .int 0])), (by_, .inl (E.2.1 0, 800, .inl f)), (sr, .inr (7, [.ref s1, .ref s2, .ref s3, .ref s4, .int u_13])), (s1, .inl (E.2.1 0, 12, .inl u_14)), (s2, .inl (E.2.1 1, 12, .inl u_15)), (s3, .inl (E.2.1 0, 12, .inl u_16)), (s4, .inl (E.2.1 0, 12, .inl u_17))]) [0, 1, 2, 3, 4, 5, 6, 7, 8, 9, 10, 11, 12] rfl
      have hD9 := hD.sub (ws' := [(h0, .inr (11, [.ref tp, .ref rd, .ref se, .ref ba, .ref of, .ref pl, .ref ru, .ref sc, .int wk])), (ba, .inl (E.2.1 4, 6, .inr (.inr (.inr (.inr fb))))), (bo_, .inr (0, [.ref sp, .ref pa, .int lt, .ref sr, .ref co, .ref tr])), (ru, .inr (7, [.ref t1, .ref t2, .ref t3, .ref t4, .int sq])), (rd, .inr (6, [.ref tk, .int u_7, .int u_8])), (tk, .inr (10, [.ref tp, .int u_9, .int u_10, .int u_11, .int u_12])), (tp, .inr (9, [.ref by_, .int 0])), (by_, .inl (E.2.1 0, 800, .inl f)), (sr, .inr (7, [.ref s1, .ref s2, .ref s3, .ref s4, .int u_13])), (s1, .inl (E.2.1 0, 12, .inl u_14)), (s2, .inl (E.2.1 1, 12, .inl u_15)), (s3, .inl (E.2.1 0, 12, .inl u_16)), (s4, .inl (E.2.1 0, 12, .inl u_17))]) [0, 1, 2, 3, 4, 5, 6, 7, 8, 9, 10, 11, 12] (by decide) rfl
      exact W.iret (v := u_13) hx hb hr (fun t ht hW => ⟨⟨u_13, (sr, ru, u_7, u_8, u_9, u_10, u_11, u_12, u_13, u_14, u_15, u_16, u_17, 0), rfl, trivial, Or.inr ⟨rfl, rfl⟩, (by omega), by rw [ht]; exact hP9, hD9⟩, hS.F ht⟩) hS.2.2 dX11_skipper_78
    · refine lv_iconst (v := (-1)) hx hb dX11_skipper_36 (by decide) ?_
      have hP9 := hP.sub (ws' := [(h0, .inr (11, [.ref tp, .ref rd, .ref se, .ref ba, .ref of, .ref pl, .ref sr, .ref sc, .int wk])), (ba, .inl (E.2.1 4, 6, .inr (.inr (.inr (.inr fb))))), (bo_, .inr (0, [.ref sp, .ref pa, .int lt, .ref ru, .ref co, .ref tr])), (ru, .inr (7, [.ref t1, .ref t2, .ref t3, .ref t4, .int sq])), (rd, .inr (6, [.ref tk, .int u_7, .int u_8])), (tk, .inr (10, [.ref tp, .int u_9, .int u_10, .int u_11, .int u_12])), (tp, .inr (9, [.ref by_, .int 0])), (by_, .inl (E.2.1 0, 800, .inl f)), (sr, .inr (7, [.ref s1, .ref s2, .ref s3, .ref s4, .int u_13])), (s1, .inl (E.2.1 0, 12, .inl u_14)), (s2, .inl (E.2.1 1, 12, .inl u_15)), (s3, .inl (E.2.1 0, 12, .inl u_16)), (s4, .inl (E.2.1 0, 12, .inl u_17))]) [0, 1, 2, 3, 4, 5, 6, 7, 8, 9, 10, 11, 12] rfl
      have hD9 := hD.sub (ws' := [(h0, .inr (11, [.ref tp, .ref rd, .ref se, .ref ba, .ref of, .ref pl, .ref sr, .ref sc, .int wk])), (ba, .inl (E.2.1 4, 6, .inr (.inr (.inr (.inr fb))))), (bo_, .inr (0, [.ref sp, .ref pa, .int lt, .ref ru, .ref co, .ref tr])), (ru, .inr (7, [.ref t1, .ref t2, .ref t3, .ref t4, .int sq])), (rd, .inr (6, [.ref tk, .int u_7, .int u_8])), (tk, .inr (10, [.ref tp, .int u_9, .int u_10, .int u_11, .int u_12])), (tp, .inr (9, [.ref by_, .int 0])), (by_, .inl (E.2.1 0, 800, .inl f)), (sr, .inr (7, [.ref s1, .ref s2, .ref s3, .ref s4, .int u_13])), (s1, .inl (E.2.1 0, 12, .inl u_14)), (s2, .inl (E.2.1 1, 12, .inl u_15)), (s3, .inl (E.2.1 0, 12, .inl u_16)), (s4, .inl (E.2.1 0, 12, .inl u_17))]) [0, 1, 2, 3, 4, 5, 6, 7, 8, 9, 10, 11, 12] (by decide) rfl
      exact W.iret (v := (-1)) hx hb hr (fun t ht hW => ⟨⟨(-1), (ru, sr, u_7, u_8, u_9, u_10, u_11, u_12, u_13, u_14, u_15, u_16, u_17, 0), rfl, trivial, Or.inl ⟨rfl, rfl⟩, (by omega), by rw [ht]; exact hP9, hD9⟩, hS.F ht⟩) hS.2.2 dX11_skipper_37
  · have b_20 : inR b 0 5 = false := bz hw_2 c_3
    refine lv_bipush (v := (-2)) hx hb dX11_skipper_9 (by decide) ?_
    have hP9 := hP.sub (ws' := [(h0, .inr (11, [.ref tp, .ref rd, .ref se, .ref ba, .ref of, .ref pl, .ref sr, .ref sc, .int wk])), (ba, .inl (E.2.1 4, 6, .inr (.inr (.inr (.inr fb))))), (bo_, .inr (0, [.ref sp, .ref pa, .int lt, .ref ru, .ref co, .ref tr])), (ru, .inr (7, [.ref t1, .ref t2, .ref t3, .ref t4, .int sq])), (rd, .inr (6, [.ref tk, .int fk, .int fq])), (tk, .inr (10, [.ref tp, .int kd, .int sa, .int nu, .int be])), (tp, .inr (9, [.ref by_, .int (nI ln)])), (by_, .inl (E.2.1 0, 800, .inl f)), (sr, .inr (7, [.ref s1, .ref s2, .ref s3, .ref s4, .int sz_])), (s1, .inl (E.2.1 0, 12, .inl r1)), (s2, .inl (E.2.1 1, 12, .inl r2)), (s3, .inl (E.2.1 0, 12, .inl r3)), (s4, .inl (E.2.1 0, 12, .inl r4))]) [0, 1, 2, 3, 4, 5, 6, 7, 8, 9, 10, 11, 12] rfl
    have hD9 := hD.sub (ws' := [(h0, .inr (11, [.ref tp, .ref rd, .ref se, .ref ba, .ref of, .ref pl, .ref sr, .ref sc, .int wk])), (ba, .inl (E.2.1 4, 6, .inr (.inr (.inr (.inr fb))))), (bo_, .inr (0, [.ref sp, .ref pa, .int lt, .ref ru, .ref co, .ref tr])), (ru, .inr (7, [.ref t1, .ref t2, .ref t3, .ref t4, .int sq])), (rd, .inr (6, [.ref tk, .int fk, .int fq])), (tk, .inr (10, [.ref tp, .int kd, .int sa, .int nu, .int be])), (tp, .inr (9, [.ref by_, .int (nI ln)])), (by_, .inl (E.2.1 0, 800, .inl f)), (sr, .inr (7, [.ref s1, .ref s2, .ref s3, .ref s4, .int sz_])), (s1, .inl (E.2.1 0, 12, .inl r1)), (s2, .inl (E.2.1 1, 12, .inl r2)), (s3, .inl (E.2.1 0, 12, .inl r3)), (s4, .inl (E.2.1 0, 12, .inl r4))]) [0, 1, 2, 3, 4, 5, 6, 7, 8, 9, 10, 11, 12] (by decide) rfl
    exact W.iret (v := (-2)) hx hb hr (fun t ht hW => ⟨⟨(-2), (ru, sr, fk, fq, kd, sa, nu, be, sz_, r1, r2, r3, r4, ln), rfl, trivial, Or.inl ⟨rfl, rfl⟩, (by omega), by rw [ht]; exact hP9, hD9⟩, hS.F ht⟩) hS.2.2 dX11_skipper_11
