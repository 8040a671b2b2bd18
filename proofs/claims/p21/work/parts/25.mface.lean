set_option maxHeartbeats 4000000 in
set_option maxRecDepth 100000 in
theorem c_X12_feed (l : Launch) (E : vE) (h0 : Nat) (q : Nat → Nat) (i_size : Int32) (i_sort : Int32) (i_what : Int32) (i_at : Int32) (i_end : Int32) (i_worth : Int32) (i_faultKind : Int32) (i_faultPlace : Int32) (i_got : Int32) (i_worked : Int32) (i_deliveries : Int32) (i_isPlanned : Int32) (i_bestDone : Int32) (i_bestCost : Int32) (ln : Nat) (a_tape : Nat → Int32) (a1 : Int32) (a2 : Int32) (a3 : Int32) (a4 : Int32) (a5 : Int32) (sz : Nat) (hln : ln ≤ 800) : Met l yX12_feed wsX12_feed ({ frames := 0, cells := 0, slots := 0, locals := 0 }) (pcW E [.ref h0, .int a1, .int a2, .int a3, .int a4, .int a5] sz [(h0, .inr (12, mG q (nI ln) i_size i_sort i_what i_at i_end i_worth i_faultKind i_faultPlace i_got i_worked i_deliveries i_isPlanned i_bestDone i_bestCost)), (q 0, .inl (E.2.1 3, 800, .inl a_tape))]) (va_Qi (fun (r : Int32) (u : Nat × (Nat → Int32)) => match u with | (ln2, b_tape) => True) (fun (u : Nat × (Nat → Int32)) (t : State) => match u with | (ln2, b_tape) => (ln2 ≤ 800) ∧ wB E (va_A [(h0, .inr (12, mG q (nI ln) i_size i_sort i_what i_at i_end i_worth i_faultKind i_faultPlace i_got i_worked i_deliveries i_isPlanned i_bestDone i_bestCost)), (q 0, .inl (E.2.1 3, 800, .inl a_tape))] sz) [(h0, .inr (12, mG q (nI ln2) i_size i_sort i_what i_at i_end i_worth i_faultKind i_faultPlace i_got i_worked i_deliveries i_isPlanned i_bestDone i_bestCost)), (q 0, .inl (E.2.1 3, 800, .inl b_tape))] t) (va_A [(h0, .inr (12, mG q (nI ln) i_size i_sort i_what i_at i_end i_worth i_faultKind i_faultPlace i_got i_worked i_deliveries i_isPlanned i_bestDone i_bestCost)), (q 0, .inl (E.2.1 3, 800, .inl a_tape))] sz)) 0 0 (va_A [(h0, .inr (12, mG q (nI ln) i_size i_sort i_what i_at i_end i_worth i_faultKind i_faultPlace i_got i_worked i_deliveries i_isPlanned i_bestDone i_bestCost)), (q 0, .inl (E.2.1 3, 800, .inl a_tape))] sz) := by
  refine Met.ofW (cc := cX12_feed) (maxL := 9) (ret := (some .int)) (by decide) rfl ?_
  intro p e s m args below meth c s₁ B hml hv
  obtain ⟨rfl, hsz, hP, hkn, hD0, hst⟩ := hv
  have hx := B.exec
  have hb := B.bytes
  have hr := B.returns
  have hts := atoms_spec (ws := wsX12_feed) B.pre
  have hown : s.vm.findClass RX12 = some m.cls := findClass_of_methodNamed B.named
  have hlocks := B.notSynchronized
  subst hsz
  have hD := hD0.self (sz := s.heap.size)
  have hK := hkn.1
  have hAO := hkn.2.2.1
  generalize hAe : va_A [(h0, .inr (12, mG q (nI ln) i_size i_sort i_what i_at i_end i_worth i_faultKind i_faultPlace i_got i_worked i_deliveries i_isPlanned i_bestDone i_bestCost)), (q 0, .inl (E.2.1 3, 800, .inl a_tape))] s.heap.size = A at hD hst ⊢
  have hA : ∀ q : Nat, s.heap.size ≤ q → A q := fun q h => by rw [← hAe]; exact Or.inr h
  have hS : va_S A s.heap s.heap [] := va_S.rf
  have hP : va_P E.1 vwCl [(h0, .inr (12, mG q (nI ln) i_size i_sort i_what i_at i_end i_worth i_faultKind i_faultPlace i_got i_worked i_deliveries i_isPlanned i_bestDone i_bestCost)), (q 0, .inl (E.2.1 3, 800, .inl a_tape))] s.heap := hP
  have hl := lv_entry ([.ref h0, .int a1, .int a2, .int a3, .int a4, .int a5]) (n := 9) (Nat.le_of_ble_eq_true rfl)
  rw [lg_entry_eq]
  generalize (lg_sl ([.ref h0, .int a1, .int a2, .int a3, .int a4, .int a5]) ++ List.replicate (9 - (lg_sl ([.ref h0, .int a1, .int a2, .int a3, .int a4, .int a5])).length) Slot.unset).toArray = ls at hl ⊢
  have hl : lv_has ls 9 [(0, .ref h0), (1, .int a1), (2, .int a2), (3, .int a3), (4, .int a4), (5, .int a5)] := hl
  have fl7 := hts (.fieldLink RX12 7 "BoatsHomeModel" "tape" "[B") (by first | exact List.mem_of_getElem? (i := 2) rfl | decide +kernel)
  have fl152 := hts (.fieldLink RX12 152 "BoatsHomeModel" "taped" "I") (by first | exact List.mem_of_getElem? (i := 1) rfl | decide +kernel)
  have inX12 : ∀ w ∈ u_ws RX12 TX12 59, w ∈ wsX12_feed := by first | exact fun w h9 => (List.mem_cons_of_mem _ (List.mem_append_right _ h9)) | decide +kernel
  refine lv_aload_n hx hb dX12_feed_0 rfl (lv_at hl 0 rfl) ?_
  refine va_get (D := E.1) (ci := 12) (v := .int (nI ln)) (C := RX12) (T := TX12) (N := 59) hx hb hts inX12 hown hK hP 0 rfl rfl 1 (by decide) fl152 (fun _ h9 => h9) rfl dX12_feed_1 ?_
  refine lv_bipush (v := 20) hx hb dX12_feed_4 (by decide) ?_
  refine lv_iadd hx hb dX12_feed_6 ?_
  refine lv_topi (fun x_1 ex_1 => ?_)
  obtain rfl : x_1 = nI (ln + 20) := ex_1.trans (nI_add ln 20)
  refine lv_sipush (v := 800) hx hb dX12_feed_7 (by decide) ?_
  refine lv_icmp_le (tgt := 16) hx hb dX12_feed_10 (by decide) (fun c_2 => ?_) (fun c_2 => ?_)
  · have h20 : ln + 20 ≤ 800 := (nI_leI (b := 800) (by omega) (by decide)).mp c_2
    refine lv_iconst (v := 0) hx hb dX12_feed_16 (by decide) ?_
    refine lv_istore (lv' := [(6, .int 0), (0, .ref h0), (1, .int a1), (2, .int a2), (3, .int a3), (4, .int a4), (5, .int a5)]) hx hb dX12_feed_17 hl (by decide) rfl (fun ls hl => ?_)
    refine lv_iload hx hb dX12_feed_19 (lv_at hl 0 rfl) ?_
    refine lv_iconst (v := 5) hx hb dX12_feed_21 (by decide) ?_
    refine lv_icmp_ge (tgt := 115) hx hb dX12_feed_22 (by decide) (fun c9 => absurd c9 (by decide)) (fun _ => ?_)
    refine lv_iload hx hb dX12_feed_25 (lv_at hl 0 rfl) ?_
    refine lv_if_ne (tgt := 34) hx hb dX12_feed_27 (by decide) (fun c9 => absurd c9 (by decide)) (fun _ => ?_)
    refine lv_iload_n hx hb dX12_feed_30 rfl (lv_at hl 2 rfl) ?_
    refine lv_goto (tgt := 67) hx hb dX12_feed_31 (by decide) ?_
    refine lv_istore (lv' := [(7, .int a1), (6, .int 0), (0, .ref h0), (1, .int a1), (2, .int a2), (3, .int a3), (4, .int a4), (5, .int a5)]) hx hb dX12_feed_67 hl (by decide) rfl (fun ls hl => ?_)
    refine lv_bipush (v := 24) hx hb dX12_feed_69 (by decide) ?_
    refine lv_istore (lv' := [(8, .int 24), (7, .int a1), (6, .int 0), (0, .ref h0), (1, .int a1), (2, .int a2), (3, .int a3), (4, .int a4), (5, .int a5)]) hx hb dX12_feed_71 hl (by decide) rfl (fun ls hl => ?_)
    refine lv_iload hx hb dX12_feed_73 (lv_at hl 0 rfl) ?_
    refine lv_if_lt (tgt := 109) hx hb dX12_feed_75 (by decide) (fun c9 => absurd c9 (by decide)) (fun _ => ?_)
    refine lv_aload_n hx hb dX12_feed_78 rfl (lv_at hl 3 rfl) ?_
    refine va_get (D := E.1) (ci := 12) (v := .ref (q 0)) (C := RX12) (T := TX12) (N := 59) hx hb hts inX12 hown hK hP 0 rfl rfl 0 (by decide) fl7 (fun _ h9 => h9) rfl dX12_feed_79 ?_
    refine lv_aload_n hx hb dX12_feed_82 rfl (lv_at hl 3 rfl) ?_
    refine va_get (D := E.1) (ci := 12) (v := .int (nI ln)) (C := RX12) (T := TX12) (N := 59) hx hb hts inX12 hown hK hP 0 rfl rfl 1 (by decide) fl152 (fun _ h9 => h9) rfl dX12_feed_83 ?_
    refine lv_iload hx hb dX12_feed_86 (lv_at hl 1 rfl) ?_
    refine lv_iload hx hb dX12_feed_88 (lv_at hl 0 rfl) ?_
    refine lv_ishr hx hb dX12_feed_90 ?_
    refine lv_topi (fun x_3 ex_3 => ?_)
    refine lv_i2b hx hb dX12_feed_91 rfl ?_
    refine lv_topi (fun x_4 ex_4 => ?_)
    have hi_5 : vp_in (nI ln) 800 := vp_in_nI (by omega) (by decide)
    refine va_bast hx hb hK hP hD hS 1 3 rfl rfl hi_5 dX12_feed_92 (fun H locs hP hD hS => ?_)
    have hP : va_P E.1 vwCl [(h0, .inr (12, mG q (nI ln) i_size i_sort i_what i_at i_end i_worth i_faultKind i_faultPlace i_got i_worked i_deliveries i_isPlanned i_bestDone i_bestCost)), (q 0, .inl (E.2.1 3, 800, .inl (upd a_tape (nI ln).toNatClampNeg (vp_nar .byte x_4))))] H := hP
    have hD : va_D A [(h0, .inr (12, mG q (nI ln) i_size i_sort i_what i_at i_end i_worth i_faultKind i_faultPlace i_got i_worked i_deliveries i_isPlanned i_bestDone i_bestCost)), (q 0, .inl (E.2.1 3, 800, .inl (upd a_tape (nI ln).toNatClampNeg (vp_nar .byte x_4))))] := hD
    obtain ⟨f_6, ef_6⟩ : ∃ g : Nat → Int32, g = upd a_tape (nI ln).toNatClampNeg (vp_nar .byte x_4) := ⟨_, rfl⟩
    rw [← ef_6] at hP hD
    refine lv_aload_n hx hb dX12_feed_93 rfl (lv_at hl 3 rfl) ?_
    refine lv_dup hx hb dX12_feed_94 rfl ?_
    refine va_get (D := E.1) (ci := 12) (v := .int (nI ln)) (C := RX12) (T := TX12) (N := 59) hx hb hts inX12 hown hK hP 0 rfl rfl 1 (by decide) fl152 (fun _ h9 => h9) rfl dX12_feed_95 ?_
    refine lv_iconst (v := 1) hx hb dX12_feed_98 (by decide) ?_
    refine lv_iadd hx hb dX12_feed_99 ?_
    refine lv_topi (fun x_7 ex_7 => ?_)
    obtain rfl : x_7 = nI (ln + 1) := ex_7.trans (nI_1 _)
    refine va_put (D := E.1) (ci := 12) (v := .int (nI (ln + 1))) (ty := .int) (C := RX12) (T := TX12) (N := 59) hx hb hts inX12 tyX12 tyX12_ok nmX12 hown hK hP hD hS 0 rfl rfl 1 (by decide) fl152 (fun _ h9 => h9) rfl (by decide +kernel) rfl rfl (Nat.le_of_ble_eq_true rfl) dX12_feed_100 (fun H locs hP hD hS => ?_)
    have hP : va_P E.1 vwCl [(h0, .inr (12, mG q (nI (ln + 1)) i_size i_sort i_what i_at i_end i_worth i_faultKind i_faultPlace i_got i_worked i_deliveries i_isPlanned i_bestDone i_bestCost)), (q 0, .inl (E.2.1 3, 800, .inl f_6))] H := hP
    have hD : va_D A [(h0, .inr (12, mG q (nI (ln + 1)) i_size i_sort i_what i_at i_end i_worth i_faultKind i_faultPlace i_got i_worked i_deliveries i_isPlanned i_bestDone i_bestCost)), (q 0, .inl (E.2.1 3, 800, .inl f_6))] := hD
    refine lv_iinc (v := 16) (lv' := [(8, .int 16), (7, .int a1), (6, .int 0), (0, .ref h0), (1, .int a1), (2, .int a2), (3, .int a3), (4, .int a4), (5, .int a5)]) hx hb dX12_feed_103 hl (k := 0) rfl (by decide) (by decide) rfl (fun ls hl => ?_)
    refine lv_goto (tgt := 73) hx hb dX12_feed_106 (by decide) ?_
    refine lv_iload hx hb dX12_feed_73 (lv_at hl 0 rfl) ?_
    refine lv_if_lt (tgt := 109) hx hb dX12_feed_75 (by decide) (fun c9 => absurd c9 (by decide)) (fun _ => ?_)
    refine lv_aload_n hx hb dX12_feed_78 rfl (lv_at hl 3 rfl) ?_
    refine va_get (D := E.1) (ci := 12) (v := .ref (q 0)) (C := RX12) (T := TX12) (N := 59) hx hb hts inX12 hown hK hP 0 rfl rfl 0 (by decide) fl7 (fun _ h9 => h9) rfl dX12_feed_79 ?_
    refine lv_aload_n hx hb dX12_feed_82 rfl (lv_at hl 3 rfl) ?_
    refine va_get (D := E.1) (ci := 12) (v := .int (nI (ln + 1))) (C := RX12) (T := TX12) (N := 59) hx hb hts inX12 hown hK hP 0 rfl rfl 1 (by decide) fl152 (fun _ h9 => h9) rfl dX12_feed_83 ?_
    refine lv_iload hx hb dX12_feed_86 (lv_at hl 1 rfl) ?_
    refine lv_iload hx hb dX12_feed_88 (lv_at hl 0 rfl) ?_
    refine lv_ishr hx hb dX12_feed_90 ?_
    refine lv_topi (fun x_8 ex_8 => ?_)
    refine lv_i2b hx hb dX12_feed_91 rfl ?_
    refine lv_topi (fun x_9 ex_9 => ?_)
    have hi_10 : vp_in (nI (ln + 1)) 800 := vp_in_nI (by omega) (by decide)
    refine va_bast hx hb hK hP hD hS 1 3 rfl rfl hi_10 dX12_feed_92 (fun H locs hP hD hS => ?_)
    have hP : va_P E.1 vwCl [(h0, .inr (12, mG q (nI (ln + 1)) i_size i_sort i_what i_at i_end i_worth i_faultKind i_faultPlace i_got i_worked i_deliveries i_isPlanned i_bestDone i_bestCost)), (q 0, .inl (E.2.1 3, 800, .inl (upd f_6 (nI (ln + 1)).toNatClampNeg (vp_nar .byte x_9))))] H := hP
    have hD : va_D A [(h0, .inr (12, mG q (nI (ln + 1)) i_size i_sort i_what i_at i_end i_worth i_faultKind i_faultPlace i_got i_worked i_deliveries i_isPlanned i_bestDone i_bestCost)), (q 0, .inl (E.2.1 3, 800, .inl (upd f_6 (nI (ln + 1)).toNatClampNeg (vp_nar .byte x_9))))] := hD
    obtain ⟨f_11, ef_11⟩ : ∃ g : Nat → Int32, g = upd f_6 (nI (ln + 1)).toNatClampNeg (vp_nar .byte x_9) := ⟨_, rfl⟩
    rw [← ef_11] at hP hD
    refine lv_aload_n hx hb dX12_feed_93 rfl (lv_at hl 3 rfl) ?_
    refine lv_dup hx hb dX12_feed_94 rfl ?_
    refine va_get (D := E.1) (ci := 12) (v := .int (nI (ln + 1))) (C := RX12) (T := TX12) (N := 59) hx hb hts inX12 hown hK hP 0 rfl rfl 1 (by decide) fl152 (fun _ h9 => h9) rfl dX12_feed_95 ?_
    refine lv_iconst (v := 1) hx hb dX12_feed_98 (by decide) ?_
    refine lv_iadd hx hb dX12_feed_99 ?_
    refine lv_topi (fun x_12 ex_12 => ?_)
    obtain rfl : x_12 = nI ((ln + 1) + 1) := ex_12.trans (nI_1 _)
    refine va_put (D := E.1) (ci := 12) (v := .int (nI ((ln + 1) + 1))) (ty := .int) (C := RX12) (T := TX12) (N := 59) hx hb hts inX12 tyX12 tyX12_ok nmX12 hown hK hP hD hS 0 rfl rfl 1 (by decide) fl152 (fun _ h9 => h9) rfl (by decide +kernel) rfl rfl (Nat.le_of_ble_eq_true rfl) dX12_feed_100 (fun H locs hP hD hS => ?_)
    have hP : va_P E.1 vwCl [(h0, .inr (12, mG q (nI ((ln + 1) + 1)) i_size i_sort i_what i_at i_end i_worth i_faultKind i_faultPlace i_got i_worked i_deliveries i_isPlanned i_bestDone i_bestCost)), (q 0, .inl (E.2.1 3, 800, .inl f_11))] H := hP
    have hD : va_D A [(h0, .inr (12, mG q (nI ((ln + 1) + 1)) i_size i_sort i_what i_at i_end i_worth i_faultKind i_faultPlace i_got i_worked i_deliveries i_isPlanned i_bestDone i_bestCost)), (q 0, .inl (E.2.1 3, 800, .inl f_11))] := hD
    refine lv_iinc (v := 8) (lv' := [(8, .int 8), (7, .int a1), (6, .int 0), (0, .ref h0), (1, .int a1), (2, .int a2), (3, .int a3), (4, .int a4), (5, .int a5)]) hx hb dX12_feed_103 hl (k := 0) rfl (by decide) (by decide) rfl (fun ls hl => ?_)
    refine lv_goto (tgt := 73) hx hb dX12_feed_106 (by decide) ?_
    refine lv_iload hx hb dX12_feed_73 (lv_at hl 0 rfl) ?_
    refine lv_if_lt (tgt := 109) hx hb dX12_feed_75 (by decide) (fun c9 => absurd c9 (by decide)) (fun _ => ?_)
    refine lv_aload_n hx hb dX12_feed_78 rfl (lv_at hl 3 rfl) ?_
    refine va_get (D := E.1) (ci := 12) (v := .ref (q 0)) (C := RX12) (T := TX12) (N := 59) hx hb hts inX12 hown hK hP 0 rfl rfl 0 (by decide) fl7 (fun _ h9 => h9) rfl dX12_feed_79 ?_
    refine lv_aload_n hx hb dX12_feed_82 rfl (lv_at hl 3 rfl) ?_
    refine va_get (D := E.1) (ci := 12) (v := .int (nI ((ln + 1) + 1))) (C := RX12) (T := TX12) (N := 59) hx hb hts inX12 hown hK hP 0 rfl rfl 1 (by decide) fl152 (fun _ h9 => h9) rfl dX12_feed_83 ?_
    refine lv_iload hx hb dX12_feed_86 (lv_at hl 1 rfl) ?_
    refine lv_iload hx hb dX12_feed_88 (lv_at hl 0 rfl) ?_
    refine lv_ishr hx hb dX12_feed_90 ?_
    refine lv_topi (fun x_13 ex_13 => ?_)
    refine lv_i2b hx hb dX12_feed_91 rfl ?_
    refine lv_topi (fun x_14 ex_14 => ?_)
    have hi_15 : vp_in (nI ((ln + 1) + 1)) 800 := vp_in_nI (by omega) (by decide)
    refine va_bast hx hb hK hP hD hS 1 3 rfl rfl hi_15 dX12_feed_92 (fun H locs hP hD hS => ?_)
    have hP : va_P E.1 vwCl [(h0, .inr (12, mG q (nI ((ln + 1) + 1)) i_size i_sort i_what i_at i_end i_worth i_faultKind i_faultPlace i_got i_worked i_deliveries i_isPlanned i_bestDone i_bestCost)), (q 0, .inl (E.2.1 3, 800, .inl (upd f_11 (nI ((ln + 1) + 1)).toNatClampNeg (vp_nar .byte x_14))))] H := hP
    have hD : va_D A [(h0, .inr (12, mG q (nI ((ln + 1) + 1)) i_size i_sort i_what i_at i_end i_worth i_faultKind i_faultPlace i_got i_worked i_deliveries i_isPlanned i_bestDone i_bestCost)), (q 0, .inl (E.2.1 3, 800, .inl (upd f_11 (nI ((ln + 1) + 1)).toNatClampNeg (vp_nar .byte x_14))))] := hD
    obtain ⟨f_16, ef_16⟩ : ∃ g : Nat → Int32, g = upd f_11 (nI ((ln + 1) + 1)).toNatClampNeg (vp_nar .byte x_14) := ⟨_, rfl⟩
    rw [← ef_16] at hP hD
    refine lv_aload_n hx hb dX12_feed_93 rfl (lv_at hl 3 rfl) ?_
    refine lv_dup hx hb dX12_feed_94 rfl ?_
    refine va_get (D := E.1) (ci := 12) (v := .int (nI ((ln + 1) + 1))) (C := RX12) (T := TX12) (N := 59) hx hb hts inX12 hown hK hP 0 rfl rfl 1 (by decide) fl152 (fun _ h9 => h9) rfl dX12_feed_95 ?_
    refine lv_iconst (v := 1) hx hb dX12_feed_98 (by decide) ?_
    refine lv_iadd hx hb dX12_feed_99 ?_
    refine lv_topi (fun x_17 ex_17 => ?_)
    obtain rfl : x_17 = nI (((ln + 1) + 1) + 1) := ex_17.trans (nI_1 _)
    refine va_put (D := E.1) (ci := 12) (v := .int (nI (((ln + 1) + 1) + 1))) (ty := .int) (C := RX12) (T := TX12) (N := 59) hx hb hts inX12 tyX12 tyX12_ok nmX12 hown hK hP hD hS 0 rfl rfl 1 (by decide) fl152 (fun _ h9 => h9) rfl (by decide +kernel) rfl rfl (Nat.le_of_ble_eq_true rfl) dX12_feed_100 (fun H locs hP hD hS => ?_)
    have hP : va_P E.1 vwCl [(h0, .inr (12, mG q (nI (((ln + 1) + 1) + 1)) i_size i_sort i_what i_at i_end i_worth i_faultKind i_faultPlace i_got i_worked i_deliveries i_isPlanned i_bestDone i_bestCost)), (q 0, .inl (E.2.1 3, 800, .inl f_16))] H := hP
    have hD : va_D A [(h0, .inr (12, mG q (nI (((ln + 1) + 1) + 1)) i_size i_sort i_what i_at i_end i_worth i_faultKind i_faultPlace i_got i_worked i_deliveries i_isPlanned i_bestDone i_bestCost)), (q 0, .inl (E.2.1 3, 800, .inl f_16))] := hD
    refine lv_iinc (v := 0) (lv' := [(8, .int 0), (7, .int a1), (6, .int 0), (0, .ref h0), (1, .int a1), (2, .int a2), (3, .int a3), (4, .int a4), (5, .int a5)]) hx hb dX12_feed_103 hl (k := 0) rfl (by decide) (by decide) rfl (fun ls hl => ?_)
    refine lv_goto (tgt := 73) hx hb dX12_feed_106 (by decide) ?_
    refine lv_iload hx hb dX12_feed_73 (lv_at hl 0 rfl) ?_
    refine lv_if_lt (tgt := 109) hx hb dX12_feed_75 (by decide) (fun c9 => absurd c9 (by decide)) (fun _ => ?_)
    refine lv_aload_n hx hb dX12_feed_78 rfl (lv_at hl 3 rfl) ?_
    refine va_get (D := E.1) (ci := 12) (v := .ref (q 0)) (C := RX12) (T := TX12) (N := 59) hx hb hts inX12 hown hK hP 0 rfl rfl 0 (by decide) fl7 (fun _ h9 => h9) rfl dX12_feed_79 ?_
    refine lv_aload_n hx hb dX12_feed_82 rfl (lv_at hl 3 rfl) ?_
    refine va_get (D := E.1) (ci := 12) (v := .int (nI (((ln + 1) + 1) + 1))) (C := RX12) (T := TX12) (N := 59) hx hb hts inX12 hown hK hP 0 rfl rfl 1 (by decide) fl152 (fun _ h9 => h9) rfl dX12_feed_83 ?_
    refine lv_iload hx hb dX12_feed_86 (lv_at hl 1 rfl) ?_
    refine lv_iload hx hb dX12_feed_88 (lv_at hl 0 rfl) ?_
    refine lv_ishr hx hb dX12_feed_90 ?_
    refine lv_topi (fun x_18 ex_18 => ?_)
    refine lv_i2b hx hb dX12_feed_91 rfl ?_
    refine lv_topi (fun x_19 ex_19 => ?_)
    have hi_20 : vp_in (nI (((ln + 1) + 1) + 1)) 800 := vp_in_nI (by omega) (by decide)
    refine va_bast hx hb hK hP hD hS 1 3 rfl rfl hi_20 dX12_feed_92 (fun H locs hP hD hS => ?_)
    have hP : va_P E.1 vwCl [(h0, .inr (12, mG q (nI (((ln + 1) + 1) + 1)) i_size i_sort i_what i_at i_end i_worth i_faultKind i_faultPlace i_got i_worked i_deliveries i_isPlanned i_bestDone i_bestCost)), (q 0, .inl (E.2.1 3, 800, .inl (upd f_16 (nI (((ln + 1) + 1) + 1)).toNatClampNeg (vp_nar .byte x_19))))] H := hP
    have hD : va_D A [(h0, .inr (12, mG q (nI (((ln + 1) + 1) + 1)) i_size i_sort i_what i_at i_end i_worth i_faultKind i_faultPlace i_got i_worked i_deliveries i_isPlanned i_bestDone i_bestCost)), (q 0, .inl (E.2.1 3, 800, .inl (upd f_16 (nI (((ln + 1) + 1) + 1)).toNatClampNeg (vp_nar .byte x_19))))] := hD
    obtain ⟨f_21, ef_21⟩ : ∃ g : Nat → Int32, g = upd f_16 (nI (((ln + 1) + 1) + 1)).toNatClampNeg (vp_nar .byte x_19) := ⟨_, rfl⟩
    rw [← ef_21] at hP hD
    refine lv_aload_n hx hb dX12_feed_93 rfl (lv_at hl 3 rfl) ?_
    refine lv_dup hx hb dX12_feed_94 rfl ?_
    refine va_get (D := E.1) (ci := 12) (v := .int (nI (((ln + 1) + 1) + 1))) (C := RX12) (T := TX12) (N := 59) hx hb hts inX12 hown hK hP 0 rfl rfl 1 (by decide) fl152 (fun _ h9 => h9) rfl dX12_feed_95 ?_
    refine lv_iconst (v := 1) hx hb dX12_feed_98 (by decide) ?_
    refine lv_iadd hx hb dX12_feed_99 ?_
    refine lv_topi (fun x_22 ex_22 => ?_)
    obtain rfl : x_22 = nI ((((ln + 1) + 1) + 1) + 1) := ex_22.trans (nI_1 _)
    refine va_put (D := E.1) (ci := 12) (v := .int (nI ((((ln + 1) + 1) + 1) + 1))) (ty := .int) (C := RX12) (T := TX12) (N := 59) hx hb hts inX12 tyX12 tyX12_ok nmX12 hown hK hP hD hS 0 rfl rfl 1 (by decide) fl152 (fun _ h9 => h9) rfl (by decide +kernel) rfl rfl (Nat.le_of_ble_eq_true rfl) dX12_feed_100 (fun H locs hP hD hS => ?_)
    have hP : va_P E.1 vwCl [(h0, .inr (12, mG q (nI ((((ln + 1) + 1) + 1) + 1)) i_size i_sort i_what i_at i_end i_worth i_faultKind i_faultPlace i_got i_worked i_deliveries i_isPlanned i_bestDone i_bestCost)), (q 0, .inl (E.2.1 3, 800, .inl f_21))] H := hP
    have hD : va_D A [(h0, .inr (12, mG q (nI ((((ln + 1) + 1) + 1) + 1)) i_size i_sort i_what i_at i_end i_worth i_faultKind i_faultPlace i_got i_worked i_deliveries i_isPlanned i_bestDone i_bestCost)), (q 0, .inl (E.2.1 3, 800, .inl f_21))] := hD
    refine lv_iinc (v := (-8)) (lv' := [(8, .int (-8)), (7, .int a1), (6, .int 0), (0, .ref h0), (1, .int a1), (2, .int a2), (3, .int a3), (4, .int a4), (5, .int a5)]) hx hb dX12_feed_103 hl (k := 0) rfl (by decide) (by decide) rfl (fun ls hl => ?_)
    refine lv_goto (tgt := 73) hx hb dX12_feed_106 (by decide) ?_
    refine lv_iload hx hb dX12_feed_73 (lv_at hl 0 rfl) ?_
    refine lv_if_lt (tgt := 109) hx hb dX12_feed_75 (by decide) (fun _ => ?_) (fun c9 => absurd c9 (by decide))
    refine lv_iinc (v := 1) (lv' := [(6, .int 1), (8, .int (-8)), (7, .int a1), (0, .ref h0), (1, .int a1), (2, .int a2), (3, .int a3), (4, .int a4), (5, .int a5)]) hx hb dX12_feed_109 hl (k := 2) rfl (by decide) (by decide) rfl (fun ls hl => ?_)
    refine lv_goto (tgt := 19) hx hb dX12_feed_112 (by decide) ?_
    refine lv_iload hx hb dX12_feed_19 (lv_at hl 0 rfl) ?_
    refine lv_iconst (v := 5) hx hb dX12_feed_21 (by decide) ?_
    refine lv_icmp_ge (tgt := 115) hx hb dX12_feed_22 (by decide) (fun c9 => absurd c9 (by decide)) (fun _ => ?_)
    refine lv_iload hx hb dX12_feed_25 (lv_at hl 0 rfl) ?_
    refine lv_if_ne (tgt := 34) hx hb dX12_feed_27 (by decide) (fun _ => ?_) (fun c9 => absurd c9 (by decide))
    refine lv_iload hx hb dX12_feed_34 (lv_at hl 0 rfl) ?_
    refine lv_iconst (v := 1) hx hb dX12_feed_36 (by decide) ?_
    refine lv_icmp_ne (tgt := 44) hx hb dX12_feed_37 (by decide) (fun c9 => absurd c9 (by decide)) (fun _ => ?_)
    refine lv_iload_n hx hb dX12_feed_40 rfl (lv_at hl 5 rfl) ?_
    refine lv_goto (tgt := 67) hx hb dX12_feed_41 (by decide) ?_
    refine lv_istore (lv' := [(7, .int a2), (6, .int 1), (8, .int (-8)), (0, .ref h0), (1, .int a1), (2, .int a2), (3, .int a3), (4, .int a4), (5, .int a5)]) hx hb dX12_feed_67 hl (by decide) rfl (fun ls hl => ?_)
    refine lv_bipush (v := 24) hx hb dX12_feed_69 (by decide) ?_
    refine lv_istore (lv' := [(8, .int 24), (7, .int a2), (6, .int 1), (0, .ref h0), (1, .int a1), (2, .int a2), (3, .int a3), (4, .int a4), (5, .int a5)]) hx hb dX12_feed_71 hl (by decide) rfl (fun ls hl => ?_)
    refine lv_iload hx hb dX12_feed_73 (lv_at hl 0 rfl) ?_
    refine lv_if_lt (tgt := 109) hx hb dX12_feed_75 (by decide) (fun c9 => absurd c9 (by decide)) (fun _ => ?_)
    refine lv_aload_n hx hb dX12_feed_78 rfl (lv_at hl 3 rfl) ?_
    refine va_get (D := E.1) (ci := 12) (v := .ref (q 0)) (C := RX12) (T := TX12) (N := 59) hx hb hts inX12 hown hK hP 0 rfl rfl 0 (by decide) fl7 (fun _ h9 => h9) rfl dX12_feed_79 ?_
    refine lv_aload_n hx hb dX12_feed_82 rfl (lv_at hl 3 rfl) ?_
    refine va_get (D := E.1) (ci := 12) (v := .int (nI ((((ln + 1) + 1) + 1) + 1))) (C := RX12) (T := TX12) (N := 59) hx hb hts inX12 hown hK hP 0 rfl rfl 1 (by decide) fl152 (fun _ h9 => h9) rfl dX12_feed_83 ?_
    refine lv_iload hx hb dX12_feed_86 (lv_at hl 1 rfl) ?_
    refine lv_iload hx hb dX12_feed_88 (lv_at hl 0 rfl) ?_
    refine lv_ishr hx hb dX12_feed_90 ?_
    refine lv_topi (fun x_23 ex_23 => ?_)
    refine lv_i2b hx hb dX12_feed_91 rfl ?_
    refine lv_topi (fun x_24 ex_24 => ?_)
    have hi_25 : vp_in (nI ((((ln + 1) + 1) + 1) + 1)) 800 := vp_in_nI (by omega) (by decide)
    refine va_bast hx hb hK hP hD hS 1 3 rfl rfl hi_25 dX12_feed_92 (fun H locs hP hD hS => ?_)
    have hP : va_P E.1 vwCl [(h0, .inr (12, mG q (nI ((((ln + 1) + 1) + 1) + 1)) i_size i_sort i_what i_at i_end i_worth i_faultKind i_faultPlace i_got i_worked i_deliveries i_isPlanned i_bestDone i_bestCost)), (q 0, .inl (E.2.1 3, 800, .inl (upd f_21 (nI ((((ln + 1) + 1) + 1) + 1)).toNatClampNeg (vp_nar .byte x_24))))] H := hP
    have hD : va_D A [(h0, .inr (12, mG q (nI ((((ln + 1) + 1) + 1) + 1)) i_size i_sort i_what i_at i_end i_worth i_faultKind i_faultPlace i_got i_worked i_deliveries i_isPlanned i_bestDone i_bestCost)), (q 0, .inl (E.2.1 3, 800, .inl (upd f_21 (nI ((((ln + 1) + 1) + 1) + 1)).toNatClampNeg (vp_nar .byte x_24))))] := hD
    obtain ⟨f_26, ef_26⟩ : ∃ g : Nat → Int32, g = upd f_21 (nI ((((ln + 1) + 1) + 1) + 1)).toNatClampNeg (vp_nar .byte x_24) := ⟨_, rfl⟩
    rw [← ef_26] at hP hD
    refine lv_aload_n hx hb dX12_feed_93 rfl (lv_at hl 3 rfl) ?_
    refine lv_dup hx hb dX12_feed_94 rfl ?_
    refine va_get (D := E.1) (ci := 12) (v := .int (nI ((((ln + 1) + 1) + 1) + 1))) (C := RX12) (T := TX12) (N := 59) hx hb hts inX12 hown hK hP 0 rfl rfl 1 (by decide) fl152 (fun _ h9 => h9) rfl dX12_feed_95 ?_
    refine lv_iconst (v := 1) hx hb dX12_feed_98 (by decide) ?_
    refine lv_iadd hx hb dX12_feed_99 ?_
    refine lv_topi (fun x_27 ex_27 => ?_)
    obtain rfl : x_27 = nI (((((ln + 1) + 1) + 1) + 1) + 1) := ex_27.trans (nI_1 _)
    refine va_put (D := E.1) (ci := 12) (v := .int (nI (((((ln + 1) + 1) + 1) + 1) + 1))) (ty := .int) (C := RX12) (T := TX12) (N := 59) hx hb hts inX12 tyX12 tyX12_ok nmX12 hown hK hP hD hS 0 rfl rfl 1 (by decide) fl152 (fun _ h9 => h9) rfl (by decide +kernel) rfl rfl (Nat.le_of_ble_eq_true rfl) dX12_feed_100 (fun H locs hP hD hS => ?_)
    have hP : va_P E.1 vwCl [(h0, .inr (12, mG q (nI (((((ln + 1) + 1) + 1) + 1) + 1)) i_size i_sort i_what i_at i_end i_worth i_faultKind i_faultPlace i_got i_worked i_deliveries i_isPlanned i_bestDone i_bestCost)), (q 0, .inl (E.2.1 3, 800, .inl f_26))] H := hP
    have hD : va_D A [(h0, .inr (12, mG q (nI (((((ln + 1) + 1) + 1) + 1) + 1)) i_size i_sort i_what i_at i_end i_worth i_faultKind i_faultPlace i_got i_worked i_deliveries i_isPlanned i_bestDone i_bestCost)), (q 0, .inl (E.2.1 3, 800, .inl f_26))] := hD
    refine lv_iinc (v := 16) (lv' := [(8, .int 16), (7, .int a2), (6, .int 1), (0, .ref h0), (1, .int a1), (2, .int a2), (3, .int a3), (4, .int a4), (5, .int a5)]) hx hb dX12_feed_103 hl (k := 0) rfl (by decide) (by decide) rfl (fun ls hl => ?_)
    refine lv_goto (tgt := 73) hx hb dX12_feed_106 (by decide) ?_
    refine lv_iload hx hb dX12_feed_73 (lv_at hl 0 rfl) ?_
    refine lv_if_lt (tgt := 109) hx hb dX12_feed_75 (by decide) (fun c9 => absurd c9 (by decide)) (fun _ => ?_)
    refine lv_aload_n hx hb dX12_feed_78 rfl (lv_at hl 3 rfl) ?_
    refine va_get (D := E.1) (ci := 12) (v := .ref (q 0)) (C := RX12) (T := TX12) (N := 59) hx hb hts inX12 hown hK hP 0 rfl rfl 0 (by decide) fl7 (fun _ h9 => h9) rfl dX12_feed_79 ?_
    refine lv_aload_n hx hb dX12_feed_82 rfl (lv_at hl 3 rfl) ?_
    refine va_get (D := E.1) (ci := 12) (v := .int (nI (((((ln + 1) + 1) + 1) + 1) + 1))) (C := RX12) (T := TX12) (N := 59) hx hb hts inX12 hown hK hP 0 rfl rfl 1 (by decide) fl152 (fun _ h9 => h9) rfl dX12_feed_83 ?_
    refine lv_iload hx hb dX12_feed_86 (lv_at hl 1 rfl) ?_
    refine lv_iload hx hb dX12_feed_88 (lv_at hl 0 rfl) ?_
    refine lv_ishr hx hb dX12_feed_90 ?_
    refine lv_topi (fun x_28 ex_28 => ?_)
    refine lv_i2b hx hb dX12_feed_91 rfl ?_
    refine lv_topi (fun x_29 ex_29 => ?_)
    have hi_30 : vp_in (nI (((((ln + 1) + 1) + 1) + 1) + 1)) 800 := vp_in_nI (by omega) (by decide)
    refine va_bast hx hb hK hP hD hS 1 3 rfl rfl hi_30 dX12_feed_92 (fun H locs hP hD hS => ?_)
    have hP : va_P E.1 vwCl [(h0, .inr (12, mG q (nI (((((ln + 1) + 1) + 1) + 1) + 1)) i_size i_sort i_what i_at i_end i_worth i_faultKind i_faultPlace i_got i_worked i_deliveries i_isPlanned i_bestDone i_bestCost)), (q 0, .inl (E.2.1 3, 800, .inl (upd f_26 (nI (((((ln + 1) + 1) + 1) + 1) + 1)).toNatClampNeg (vp_nar .byte x_29))))] H := hP
    have hD : va_D A [(h0, .inr (12, mG q (nI (((((ln + 1) + 1) + 1) + 1) + 1)) i_size i_sort i_what i_at i_end i_worth i_faultKind i_faultPlace i_got i_worked i_deliveries i_isPlanned i_bestDone i_bestCost)), (q 0, .inl (E.2.1 3, 800, .inl (upd f_26 (nI (((((ln + 1) + 1) + 1) + 1) + 1)).toNatClampNeg (vp_nar .byte x_29))))] := hD
    obtain ⟨f_31, ef_31⟩ : ∃ g : Nat → Int32, g = upd f_26 (nI (((((ln + 1) + 1) + 1) + 1) + 1)).toNatClampNeg (vp_nar .byte x_29) := ⟨_, rfl⟩
    rw [← ef_31] at hP hD
    refine lv_aload_n hx hb dX12_feed_93 rfl (lv_at hl 3 rfl) ?_
    refine lv_dup hx hb dX12_feed_94 rfl ?_
    refine va_get (D := E.1) (ci := 12) (v := .int (nI (((((ln + 1) + 1) + 1) + 1) + 1))) (C := RX12) (T := TX12) (N := 59) hx hb hts inX12 hown hK hP 0 rfl rfl 1 (by decide) fl152 (fun _ h9 => h9) rfl dX12_feed_95 ?_
    refine lv_iconst (v := 1) hx hb dX12_feed_98 (by decide) ?_
    refine lv_iadd hx hb dX12_feed_99 ?_
    refine lv_topi (fun x_32 ex_32 => ?_)
    obtain rfl : x_32 = nI ((((((ln + 1) + 1) + 1) + 1) + 1) + 1) := ex_32.trans (nI_1 _)
    refine va_put (D := E.1) (ci := 12) (v := .int (nI ((((((ln + 1) + 1) + 1) + 1) + 1) + 1))) (ty := .int) (C := RX12) (T := TX12) (N := 59) hx hb hts inX12 tyX12 tyX12_ok nmX12 hown hK hP hD hS 0 rfl rfl 1 (by decide) fl152 (fun _ h9 => h9) rfl (by decide +kernel) rfl rfl (Nat.le_of_ble_eq_true rfl) dX12_feed_100 (fun H locs hP hD hS => ?_)
    have hP : va_P E.1 vwCl [(h0, .inr (12, mG q (nI ((((((ln + 1) + 1) + 1) + 1) + 1) + 1)) i_size i_sort i_what i_at i_end i_worth i_faultKind i_faultPlace i_got i_worked i_deliveries i_isPlanned i_bestDone i_bestCost)), (q 0, .inl (E.2.1 3, 800, .inl f_31))] H := hP
    have hD : va_D A [(h0, .inr (12, mG q (nI ((((((ln + 1) + 1) + 1) + 1) + 1) + 1)) i_size i_sort i_what i_at i_end i_worth i_faultKind i_faultPlace i_got i_worked i_deliveries i_isPlanned i_bestDone i_bestCost)), (q 0, .inl (E.2.1 3, 800, .inl f_31))] := hD
    refine lv_iinc (v := 8) (lv' := [(8, .int 8), (7, .int a2), (6, .int 1), (0, .ref h0), (1, .int a1), (2, .int a2), (3, .int a3), (4, .int a4), (5, .int a5)]) hx hb dX12_feed_103 hl (k := 0) rfl (by decide) (by decide) rfl (fun ls hl => ?_)
    refine lv_goto (tgt := 73) hx hb dX12_feed_106 (by decide) ?_
    refine lv_iload hx hb dX12_feed_73 (lv_at hl 0 rfl) ?_
    refine lv_if_lt (tgt := 109) hx hb dX12_feed_75 (by decide) (fun c9 => absurd c9 (by decide)) (fun _ => ?_)
    refine lv_aload_n hx hb dX12_feed_78 rfl (lv_at hl 3 rfl) ?_
    refine va_get (D := E.1) (ci := 12) (v := .ref (q 0)) (C := RX12) (T := TX12) (N := 59) hx hb hts inX12 hown hK hP 0 rfl rfl 0 (by decide) fl7 (fun _ h9 => h9) rfl dX12_feed_79 ?_
    refine lv_aload_n hx hb dX12_feed_82 rfl (lv_at hl 3 rfl) ?_
    refine va_get (D := E.1) (ci := 12) (v := .int (nI ((((((ln + 1) + 1) + 1) + 1) + 1) + 1))) (C := RX12) (T := TX12) (N := 59) hx hb hts inX12 hown hK hP 0 rfl rfl 1 (by decide) fl152 (fun _ h9 => h9) rfl dX12_feed_83 ?_
    refine lv_iload hx hb dX12_feed_86 (lv_at hl 1 rfl) ?_
    refine lv_iload hx hb dX12_feed_88 (lv_at hl 0 rfl) ?_
    refine lv_ishr hx hb dX12_feed_90 ?_
    refine lv_topi (fun x_33 ex_33 => ?_)
    refine lv_i2b hx hb dX12_feed_91 rfl ?_
    refine lv_topi (fun x_34 ex_34 => ?_)
    have hi_35 : vp_in (nI ((((((ln + 1) + 1) + 1) + 1) + 1) + 1)) 800 := vp_in_nI (by omega) (by decide)
    refine va_bast hx hb hK hP hD hS 1 3 rfl rfl hi_35 dX12_feed_92 (fun H locs hP hD hS => ?_)
    have hP : va_P E.1 vwCl [(h0, .inr (12, mG q (nI ((((((ln + 1) + 1) + 1) + 1) + 1) + 1)) i_size i_sort i_what i_at i_end i_worth i_faultKind i_faultPlace i_got i_worked i_deliveries i_isPlanned i_bestDone i_bestCost)), (q 0, .inl (E.2.1 3, 800, .inl (upd f_31 (nI ((((((ln + 1) + 1) + 1) + 1) + 1) + 1)).toNatClampNeg (vp_nar .byte x_34))))] H := hP
    have hD : va_D A [(h0, .inr (12, mG q (nI ((((((ln + 1) + 1) + 1) + 1) + 1) + 1)) i_size i_sort i_what i_at i_end i_worth i_faultKind i_faultPlace i_got i_worked i_deliveries i_isPlanned i_bestDone i_bestCost)), (q 0, .inl (E.2.1 3, 800, .inl (upd f_31 (nI ((((((ln + 1) + 1) + 1) + 1) + 1) + 1)).toNatClampNeg (vp_nar .byte x_34))))] := hD
    obtain ⟨f_36, ef_36⟩ : ∃ g : Nat → Int32, g = upd f_31 (nI ((((((ln + 1) + 1) + 1) + 1) + 1) + 1)).toNatClampNeg (vp_nar .byte x_34) := ⟨_, rfl⟩
    rw [← ef_36] at hP hD
    refine lv_aload_n hx hb dX12_feed_93 rfl (lv_at hl 3 rfl) ?_
    refine lv_dup hx hb dX12_feed_94 rfl ?_
    refine va_get (D := E.1) (ci := 12) (v := .int (nI ((((((ln + 1) + 1) + 1) + 1) + 1) + 1))) (C := RX12) (T := TX12) (N := 59) hx hb hts inX12 hown hK hP 0 rfl rfl 1 (by decide) fl152 (fun _ h9 => h9) rfl dX12_feed_95 ?_
    refine lv_iconst (v := 1) hx hb dX12_feed_98 (by decide) ?_
    refine lv_iadd hx hb dX12_feed_99 ?_
    refine lv_topi (fun x_37 ex_37 => ?_)
    obtain rfl : x_37 = nI (((((((ln + 1) + 1) + 1) + 1) + 1) + 1) + 1) := ex_37.trans (nI_1 _)
    refine va_put (D := E.1) (ci := 12) (v := .int (nI (((((((ln + 1) + 1) + 1) + 1) + 1) + 1) + 1))) (ty := .int) (C := RX12) (T := TX12) (N := 59) hx hb hts inX12 tyX12 tyX12_ok nmX12 hown hK hP hD hS 0 rfl rfl 1 (by decide) fl152 (fun _ h9 => h9) rfl (by decide +kernel) rfl rfl (Nat.le_of_ble_eq_true rfl) dX12_feed_100 (fun H locs hP hD hS => ?_)
    have hP : va_P E.1 vwCl [(h0, .inr (12, mG q (nI (((((((ln + 1) + 1) + 1) + 1) + 1) + 1) + 1)) i_size i_sort i_what i_at i_end i_worth i_faultKind i_faultPlace i_got i_worked i_deliveries i_isPlanned i_bestDone i_bestCost)), (q 0, .inl (E.2.1 3, 800, .inl f_36))] H := hP
    have hD : va_D A [(h0, .inr (12, mG q (nI (((((((ln + 1) + 1) + 1) + 1) + 1) + 1) + 1)) i_size i_sort i_what i_at i_end i_worth i_faultKind i_faultPlace i_got i_worked i_deliveries i_isPlanned i_bestDone i_bestCost)), (q 0, .inl (E.2.1 3, 800, .inl f_36))] := hD
    refine lv_iinc (v := 0) (lv' := [(8, .int 0), (7, .int a2), (6, .int 1), (0, .ref h0), (1, .int a1), (2, .int a2), (3, .int a3), (4, .int a4), (5, .int a5)]) hx hb dX12_feed_103 hl (k := 0) rfl (by decide) (by decide) rfl (fun ls hl => ?_)
    refine lv_goto (tgt := 73) hx hb dX12_feed_106 (by decide) ?_
    refine lv_iload hx hb dX12_feed_73 (lv_at hl 0 rfl) ?_
    refine lv_if_lt (tgt := 109) hx hb dX12_feed_75 (by decide) (fun c9 => absurd c9 (by decide)) (fun _ => ?_)
    refine lv_aload_n hx hb dX12_feed_78 rfl (lv_at hl 3 rfl) ?_
    refine va_get (D := E.1) (ci := 12) (v := .ref (q 0)) (C := RX12) (T := TX12) (N := 59) hx hb hts inX12 hown hK hP 0 rfl rfl 0 (by decide) fl7 (fun _ h9 => h9) rfl dX12_feed_79 ?_
    refine lv_aload_n hx hb dX12_feed_82 rfl (lv_at hl 3 rfl) ?_
    refine va_get (D := E.1) (ci := 12) (v := .int (nI (((((((ln + 1) + 1) + 1) + 1) + 1) + 1) + 1))) (C := RX12) (T := TX12) (N := 59) hx hb hts inX12 hown hK hP 0 rfl rfl 1 (by decide) fl152 (fun _ h9 => h9) rfl dX12_feed_83 ?_
    refine lv_iload hx hb dX12_feed_86 (lv_at hl 1 rfl) ?_
    refine lv_iload hx hb dX12_feed_88 (lv_at hl 0 rfl) ?_
    refine lv_ishr hx hb dX12_feed_90 ?_
    refine lv_topi (fun x_38 ex_38 => ?_)
    refine lv_i2b hx hb dX12_feed_91 rfl ?_
    refine lv_topi (fun x_39 ex_39 => ?_)
    have hi_40 : vp_in (nI (((((((ln + 1) + 1) + 1) + 1) + 1) + 1) + 1)) 800 := vp_in_nI (by omega) (by decide)
    refine va_bast hx hb hK hP hD hS 1 3 rfl rfl hi_40 dX12_feed_92 (fun H locs hP hD hS => ?_)
    have hP : va_P E.1 vwCl [(h0, .inr (12, mG q (nI (((((((ln + 1) + 1) + 1) + 1) + 1) + 1) + 1)) i_size i_sort i_what i_at i_end i_worth i_faultKind i_faultPlace i_got i_worked i_deliveries i_isPlanned i_bestDone i_bestCost)), (q 0, .inl (E.2.1 3, 800, .inl (upd f_36 (nI (((((((ln + 1) + 1) + 1) + 1) + 1) + 1) + 1)).toNatClampNeg (vp_nar .byte x_39))))] H := hP
    have hD : va_D A [(h0, .inr (12, mG q (nI (((((((ln + 1) + 1) + 1) + 1) + 1) + 1) + 1)) i_size i_sort i_what i_at i_end i_worth i_faultKind i_faultPlace i_got i_worked i_deliveries i_isPlanned i_bestDone i_bestCost)), (q 0, .inl (E.2.1 3, 800, .inl (upd f_36 (nI (((((((ln + 1) + 1) + 1) + 1) + 1) + 1) + 1)).toNatClampNeg (vp_nar .byte x_39))))] := hD
    obtain ⟨f_41, ef_41⟩ : ∃ g : Nat → Int32, g = upd f_36 (nI (((((((ln + 1) + 1) + 1) + 1) + 1) + 1) + 1)).toNatClampNeg (vp_nar .byte x_39) := ⟨_, rfl⟩
    rw [← ef_41] at hP hD
    refine lv_aload_n hx hb dX12_feed_93 rfl (lv_at hl 3 rfl) ?_
    refine lv_dup hx hb dX12_feed_94 rfl ?_
    refine va_get (D := E.1) (ci := 12) (v := .int (nI (((((((ln + 1) + 1) + 1) + 1) + 1) + 1) + 1))) (C := RX12) (T := TX12) (N := 59) hx hb hts inX12 hown hK hP 0 rfl rfl 1 (by decide) fl152 (fun _ h9 => h9) rfl dX12_feed_95 ?_
    refine lv_iconst (v := 1) hx hb dX12_feed_98 (by decide) ?_
    refine lv_iadd hx hb dX12_feed_99 ?_
    refine lv_topi (fun x_42 ex_42 => ?_)
    obtain rfl : x_42 = nI ((((((((ln + 1) + 1) + 1) + 1) + 1) + 1) + 1) + 1) := ex_42.trans (nI_1 _)
    refine va_put (D := E.1) (ci := 12) (v := .int (nI ((((((((ln + 1) + 1) + 1) + 1) + 1) + 1) + 1) + 1))) (ty := .int) (C := RX12) (T := TX12) (N := 59) hx hb hts inX12 tyX12 tyX12_ok nmX12 hown hK hP hD hS 0 rfl rfl 1 (by decide) fl152 (fun _ h9 => h9) rfl (by decide +kernel) rfl rfl (Nat.le_of_ble_eq_true rfl) dX12_feed_100 (fun H locs hP hD hS => ?_)
    have hP : va_P E.1 vwCl [(h0, .inr (12, mG q (nI ((((((((ln + 1) + 1) + 1) + 1) + 1) + 1) + 1) + 1)) i_size i_sort i_what i_at i_end i_worth i_faultKind i_faultPlace i_got i_worked i_deliveries i_isPlanned i_bestDone i_bestCost)), (q 0, .inl (E.2.1 3, 800, .inl f_41))] H := hP
    have hD : va_D A [(h0, .inr (12, mG q (nI ((((((((ln + 1) + 1) + 1) + 1) + 1) + 1) + 1) + 1)) i_size i_sort i_what i_at i_end i_worth i_faultKind i_faultPlace i_got i_worked i_deliveries i_isPlanned i_bestDone i_bestCost)), (q 0, .inl (E.2.1 3, 800, .inl f_41))] := hD
    refine lv_iinc (v := (-8)) (lv' := [(8, .int (-8)), (7, .int a2), (6, .int 1), (0, .ref h0), (1, .int a1), (2, .int a2), (3, .int a3), (4, .int a4), (5, .int a5)]) hx hb dX12_feed_103 hl (k := 0) rfl (by decide) (by decide) rfl (fun ls hl => ?_)
    refine lv_goto (tgt := 73) hx hb dX12_feed_106 (by decide) ?_
    refine lv_iload hx hb dX12_feed_73 (lv_at hl 0 rfl) ?_
    refine lv_if_lt (tgt := 109) hx hb dX12_feed_75 (by decide) (fun _ => ?_) (fun c9 => absurd c9 (by decide))
    refine lv_iinc (v := 2) (lv' := [(6, .int 2), (8, .int (-8)), (7, .int a2), (0, .ref h0), (1, .int a1), (2, .int a2), (3, .int a3), (4, .int a4), (5, .int a5)]) hx hb dX12_feed_109 hl (k := 2) rfl (by decide) (by decide) rfl (fun ls hl => ?_)
    refine lv_goto (tgt := 19) hx hb dX12_feed_112 (by decide) ?_
    refine lv_iload hx hb dX12_feed_19 (lv_at hl 0 rfl) ?_
    refine lv_iconst (v := 5) hx hb dX12_feed_21 (by decide) ?_
    refine lv_icmp_ge (tgt := 115) hx hb dX12_feed_22 (by decide) (fun c9 => absurd c9 (by decide)) (fun _ => ?_)
    refine lv_iload hx hb dX12_feed_25 (lv_at hl 0 rfl) ?_
    refine lv_if_ne (tgt := 34) hx hb dX12_feed_27 (by decide) (fun _ => ?_) (fun c9 => absurd c9 (by decide))
    refine lv_iload hx hb dX12_feed_34 (lv_at hl 0 rfl) ?_
    refine lv_iconst (v := 1) hx hb dX12_feed_36 (by decide) ?_
    refine lv_icmp_ne (tgt := 44) hx hb dX12_feed_37 (by decide) (fun _ => ?_) (fun c9 => absurd c9 (by decide))
    refine lv_iload hx hb dX12_feed_44 (lv_at hl 0 rfl) ?_
    refine lv_iconst (v := 2) hx hb dX12_feed_46 (by decide) ?_
    refine lv_icmp_ne (tgt := 54) hx hb dX12_feed_47 (by decide) (fun c9 => absurd c9 (by decide)) (fun _ => ?_)
    refine lv_iload_n hx hb dX12_feed_50 rfl (lv_at hl 6 rfl) ?_
    refine lv_goto (tgt := 67) hx hb dX12_feed_51 (by decide) ?_
    refine lv_istore (lv' := [(7, .int a3), (6, .int 2), (8, .int (-8)), (0, .ref h0), (1, .int a1), (2, .int a2), (3, .int a3), (4, .int a4), (5, .int a5)]) hx hb dX12_feed_67 hl (by decide) rfl (fun ls hl => ?_)
    refine lv_bipush (v := 24) hx hb dX12_feed_69 (by decide) ?_
    refine lv_istore (lv' := [(8, .int 24), (7, .int a3), (6, .int 2), (0, .ref h0), (1, .int a1), (2, .int a2), (3, .int a3), (4, .int a4), (5, .int a5)]) hx hb dX12_feed_71 hl (by decide) rfl (fun ls hl => ?_)
    refine lv_iload hx hb dX12_feed_73 (lv_at hl 0 rfl) ?_
    refine lv_if_lt (tgt := 109) hx hb dX12_feed_75 (by decide) (fun c9 => absurd c9 (by decide)) (fun _ => ?_)
    refine lv_aload_n hx hb dX12_feed_78 rfl (lv_at hl 3 rfl) ?_
    refine va_get (D := E.1) (ci := 12) (v := .ref (q 0)) (C := RX12) (T := TX12) (N := 59) hx hb hts inX12 hown hK hP 0 rfl rfl 0 (by decide) fl7 (fun _ h9 => h9) rfl dX12_feed_79 ?_
    refine lv_aload_n hx hb dX12_feed_82 rfl (lv_at hl 3 rfl) ?_
    refine va_get (D := E.1) (ci := 12) (v := .int (nI ((((((((ln + 1) + 1) + 1) + 1) + 1) + 1) + 1) + 1))) (C := RX12) (T := TX12) (N := 59) hx hb hts inX12 hown hK hP 0 rfl rfl 1 (by decide) fl152 (fun _ h9 => h9) rfl dX12_feed_83 ?_
    refine lv_iload hx hb dX12_feed_86 (lv_at hl 1 rfl) ?_
    refine lv_iload hx hb dX12_feed_88 (lv_at hl 0 rfl) ?_
    refine lv_ishr hx hb dX12_feed_90 ?_
    refine lv_topi (fun x_43 ex_43 => ?_)
    refine lv_i2b hx hb dX12_feed_91 rfl ?_
    refine lv_topi (fun x_44 ex_44 => ?_)
    have hi_45 : vp_in (nI ((((((((ln + 1) + 1) + 1) + 1) + 1) + 1) + 1) + 1)) 800 := vp_in_nI (by omega) (by decide)
    refine va_bast hx hb hK hP hD hS 1 3 rfl rfl hi_45 dX12_feed_92 (fun H locs hP hD hS => ?_)
    have hP : va_P E.1 vwCl [(h0, .inr (12, mG q (nI ((((((((ln + 1) + 1) + 1) + 1) + 1) + 1) + 1) + 1)) i_size i_sort i_what i_at i_end i_worth i_faultKind i_faultPlace i_got i_worked i_deliveries i_isPlanned i_bestDone i_bestCost)), (q 0, .inl (E.2.1 3, 800, .inl (upd f_41 (nI ((((((((ln + 1) + 1) + 1) + 1) + 1) + 1) + 1) + 1)).toNatClampNeg (vp_nar .byte x_44))))] H := hP
    have hD : va_D A [(h0, .inr (12, mG q (nI ((((((((ln + 1) + 1) + 1) + 1) + 1) + 1) + 1) + 1)) i_size i_sort i_what i_at i_end i_worth i_faultKind i_faultPlace i_got i_worked i_deliveries i_isPlanned i_bestDone i_bestCost)), (q 0, .inl (E.2.1 3, 800, .inl (upd f_41 (nI ((((((((ln + 1) + 1) + 1) + 1) + 1) + 1) + 1) + 1)).toNatClampNeg (vp_nar .byte x_44))))] := hD
    obtain ⟨f_46, ef_46⟩ : ∃ g : Nat → Int32, g = upd f_41 (nI ((((((((ln + 1) + 1) + 1) + 1) + 1) + 1) + 1) + 1)).toNatClampNeg (vp_nar .byte x_44) := ⟨_, rfl⟩
    rw [← ef_46] at hP hD
    refine lv_aload_n hx hb dX12_feed_93 rfl (lv_at hl 3 rfl) ?_
    refine lv_dup hx hb dX12_feed_94 rfl ?_
    refine va_get (D := E.1) (ci := 12) (v := .int (nI ((((((((ln + 1) + 1) + 1) + 1) + 1) + 1) + 1) + 1))) (C := RX12) (T := TX12) (N := 59) hx hb hts inX12 hown hK hP 0 rfl rfl 1 (by decide) fl152 (fun _ h9 => h9) rfl dX12_feed_95 ?_
    refine lv_iconst (v := 1) hx hb dX12_feed_98 (by decide) ?_
    refine lv_iadd hx hb dX12_feed_99 ?_
    refine lv_topi (fun x_47 ex_47 => ?_)
    obtain rfl : x_47 = nI (((((((((ln + 1) + 1) + 1) + 1) + 1) + 1) + 1) + 1) + 1) := ex_47.trans (nI_1 _)
    refine va_put (D := E.1) (ci := 12) (v := .int (nI (((((((((ln + 1) + 1) + 1) + 1) + 1) + 1) + 1) + 1) + 1))) (ty := .int) (C := RX12) (T := TX12) (N := 59) hx hb hts inX12 tyX12 tyX12_ok nmX12 hown hK hP hD hS 0 rfl rfl 1 (by decide) fl152 (fun _ h9 => h9) rfl (by decide +kernel) rfl rfl (Nat.le_of_ble_eq_true rfl) dX12_feed_100 (fun H locs hP hD hS => ?_)
    have hP : va_P E.1 vwCl [(h0, .inr (12, mG q (nI (((((((((ln + 1) + 1) + 1) + 1) + 1) + 1) + 1) + 1) + 1)) i_size i_sort i_what i_at i_end i_worth i_faultKind i_faultPlace i_got i_worked i_deliveries i_isPlanned i_bestDone i_bestCost)), (q 0, .inl (E.2.1 3, 800, .inl f_46))] H := hP
    have hD : va_D A [(h0, .inr (12, mG q (nI (((((((((ln + 1) + 1) + 1) + 1) + 1) + 1) + 1) + 1) + 1)) i_size i_sort i_what i_at i_end i_worth i_faultKind i_faultPlace i_got i_worked i_deliveries i_isPlanned i_bestDone i_bestCost)), (q 0, .inl (E.2.1 3, 800, .inl f_46))] := hD
    refine lv_iinc (v := 16) (lv' := [(8, .int 16), (7, .int a3), (6, .int 2), (0, .ref h0), (1, .int a1), (2, .int a2), (3, .int a3), (4, .int a4), (5, .int a5)]) hx hb dX12_feed_103 hl (k := 0) rfl (by decide) (by decide) rfl (fun ls hl => ?_)
    refine lv_goto (tgt := 73) hx hb dX12_feed_106 (by decide) ?_
    refine lv_iload hx hb dX12_feed_73 (lv_at hl 0 rfl) ?_
    refine lv_if_lt (tgt := 109) hx hb dX12_feed_75 (by decide) (fun c9 => absurd c9 (by decide)) (fun _ => ?_)
    refine lv_aload_n hx hb dX12_feed_78 rfl (lv_at hl 3 rfl) ?_
    refine va_get (D := E.1) (ci := 12) (v := .ref (q 0)) (C := RX12) (T := TX12) (N := 59) hx hb hts inX12 hown hK hP 0 rfl rfl 0 (by decide) fl7 (fun _ h9 => h9) rfl dX12_feed_79 ?_
    refine lv_aload_n hx hb dX12_feed_82 rfl (lv_at hl 3 rfl) ?_
    refine va_get (D := E.1) (ci := 12) (v := .int (nI (((((((((ln + 1) + 1) + 1) + 1) + 1) + 1) + 1) + 1) + 1))) (C := RX12) (T := TX12) (N := 59) hx hb hts inX12 hown hK hP 0 rfl rfl 1 (by decide) fl152 (fun _ h9 => h9) rfl dX12_feed_83 ?_
    refine lv_iload hx hb dX12_feed_86 (lv_at hl 1 rfl) ?_
    refine lv_iload hx hb dX12_feed_88 (lv_at hl 0 rfl) ?_
    refine lv_ishr hx hb dX12_feed_90 ?_
    refine lv_topi (fun x_48 ex_48 => ?_)
    refine lv_i2b hx hb dX12_feed_91 rfl ?_
    refine lv_topi (fun x_49 ex_49 => ?_)
    have hi_50 : vp_in (nI (((((((((ln + 1) + 1) + 1) + 1) + 1) + 1) + 1) + 1) + 1)) 800 := vp_in_nI (by omega) (by decide)
    refine va_bast hx hb hK hP hD hS 1 3 rfl rfl hi_50 dX12_feed_92 (fun H locs hP hD hS => ?_)
    have hP : va_P E.1 vwCl [(h0, .inr (12, mG q (nI (((((((((ln + 1) + 1) + 1) + 1) + 1) + 1) + 1) + 1) + 1)) i_size i_sort i_what i_at i_end i_worth i_faultKind i_faultPlace i_got i_worked i_deliveries i_isPlanned i_bestDone i_bestCost)), (q 0, .inl (E.2.1 3, 800, .inl (upd f_46 (nI (((((((((ln + 1) + 1) + 1) + 1) + 1) + 1) + 1) + 1) + 1)).toNatClampNeg (vp_nar .byte x_49))))] H := hP
    have hD : va_D A [(h0, .inr (12, mG q (nI (((((((((ln + 1) + 1) + 1) + 1) + 1) + 1) + 1) + 1) + 1)) i_size i_sort i_what i_at i_end i_worth i_faultKind i_faultPlace i_got i_worked i_deliveries i_isPlanned i_bestDone i_bestCost)), (q 0, .inl (E.2.1 3, 800, .inl (upd f_46 (nI (((((((((ln + 1) + 1) + 1) + 1) + 1) + 1) + 1) + 1) + 1)).toNatClampNeg (vp_nar .byte x_49))))] := hD
    obtain ⟨f_51, ef_51⟩ : ∃ g : Nat → Int32, g = upd f_46 (nI (((((((((ln + 1) + 1) + 1) + 1) + 1) + 1) + 1) + 1) + 1)).toNatClampNeg (vp_nar .byte x_49) := ⟨_, rfl⟩
    rw [← ef_51] at hP hD
    refine lv_aload_n hx hb dX12_feed_93 rfl (lv_at hl 3 rfl) ?_
    refine lv_dup hx hb dX12_feed_94 rfl ?_
    refine va_get (D := E.1) (ci := 12) (v := .int (nI (((((((((ln + 1) + 1) + 1) + 1) + 1) + 1) + 1) + 1) + 1))) (C := RX12) (T := TX12) (N := 59) hx hb hts inX12 hown hK hP 0 rfl rfl 1 (by decide) fl152 (fun _ h9 => h9) rfl dX12_feed_95 ?_
    refine lv_iconst (v := 1) hx hb dX12_feed_98 (by decide) ?_
    refine lv_iadd hx hb dX12_feed_99 ?_
    refine lv_topi (fun x_52 ex_52 => ?_)
    obtain rfl : x_52 = nI ((((((((((ln + 1) + 1) + 1) + 1) + 1) + 1) + 1) + 1) + 1) + 1) := ex_52.trans (nI_1 _)
    refine va_put (D := E.1) (ci := 12) (v := .int (nI ((((((((((ln + 1) + 1) + 1) + 1) + 1) + 1) + 1) + 1) + 1) + 1))) (ty := .int) (C := RX12) (T := TX12) (N := 59) hx hb hts inX12 tyX12 tyX12_ok nmX12 hown hK hP hD hS 0 rfl rfl 1 (by decide) fl152 (fun _ h9 => h9) rfl (by decide +kernel) rfl rfl (Nat.le_of_ble_eq_true rfl) dX12_feed_100 (fun H locs hP hD hS => ?_)
    have hP : va_P E.1 vwCl [(h0, .inr (12, mG q (nI ((((((((((ln + 1) + 1) + 1) + 1) + 1) + 1) + 1) + 1) + 1) + 1)) i_size i_sort i_what i_at i_end i_worth i_faultKind i_faultPlace i_got i_worked i_deliveries i_isPlanned i_bestDone i_bestCost)), (q 0, .inl (E.2.1 3, 800, .inl f_51))] H := hP
    have hD : va_D A [(h0, .inr (12, mG q (nI ((((((((((ln + 1) + 1) + 1) + 1) + 1) + 1) + 1) + 1) + 1) + 1)) i_size i_sort i_what i_at i_end i_worth i_faultKind i_faultPlace i_got i_worked i_deliveries i_isPlanned i_bestDone i_bestCost)), (q 0, .inl (E.2.1 3, 800, .inl f_51))] := hD
    refine lv_iinc (v := 8) (lv' := [(8, .int 8), (7, .int a3), (6, .int 2), (0, .ref h0), (1, .int a1), (2, .int a2), (3, .int a3), (4, .int a4), (5, .int a5)]) hx hb dX12_feed_103 hl (k := 0) rfl (by decide) (by decide) rfl (fun ls hl => ?_)
    refine lv_goto (tgt := 73) hx hb dX12_feed_106 (by decide) ?_
    refine lv_iload hx hb dX12_feed_73 (lv_at hl 0 rfl) ?_
    refine lv_if_lt (tgt := 109) hx hb dX12_feed_75 (by decide) (fun c9 => absurd c9 (by decide)) (fun _ => ?_)
    refine lv_aload_n hx hb dX12_feed_78 rfl (lv_at hl 3 rfl) ?_
    refine va_get (D := E.1) (ci := 12) (v := .ref (q 0)) (C := RX12) (T := TX12) (N := 59) hx hb hts inX12 hown hK hP 0 rfl rfl 0 (by decide) fl7 (fun _ h9 => h9) rfl dX12_feed_79 ?_
    refine lv_aload_n hx hb dX12_feed_82 rfl (lv_at hl 3 rfl) ?_
    refine va_get (D := E.1) (ci := 12) (v := .int (nI ((((((((((ln + 1) + 1) + 1) + 1) + 1) + 1) + 1) + 1) + 1) + 1))) (C := RX12) (T := TX12) (N := 59) hx hb hts inX12 hown hK hP 0 rfl rfl 1 (by decide) fl152 (fun _ h9 => h9) rfl dX12_feed_83 ?_
    refine lv_iload hx hb dX12_feed_86 (lv_at hl 1 rfl) ?_
    refine lv_iload hx hb dX12_feed_88 (lv_at hl 0 rfl) ?_
    refine lv_ishr hx hb dX12_feed_90 ?_
    refine lv_topi (fun x_53 ex_53 => ?_)
    refine lv_i2b hx hb dX12_feed_91 rfl ?_
    refine lv_topi (fun x_54 ex_54 => ?_)
    have hi_55 : vp_in (nI ((((((((((ln + 1) + 1) + 1) + 1) + 1) + 1) + 1) + 1) + 1) + 1)) 800 := vp_in_nI (by omega) (by decide)
    refine va_bast hx hb hK hP hD hS 1 3 rfl rfl hi_55 dX12_feed_92 (fun H locs hP hD hS => ?_)
    have hP : va_P E.1 vwCl [(h0, .inr (12, mG q (nI ((((((((((ln + 1) + 1) + 1) + 1) + 1) + 1) + 1) + 1) + 1) + 1)) i_size i_sort i_what i_at i_end i_worth i_faultKind i_faultPlace i_got i_worked i_deliveries i_isPlanned i_bestDone i_bestCost)), (q 0, .inl (E.2.1 3, 800, .inl (upd f_51 (nI ((((((((((ln + 1) + 1) + 1) + 1) + 1) + 1) + 1) + 1) + 1) + 1)).toNatClampNeg (vp_nar .byte x_54))))] H := hP
    have hD : va_D A [(h0, .inr (12, mG q (nI ((((((((((ln + 1) + 1) + 1) + 1) + 1) + 1) + 1) + 1) + 1) + 1)) i_size i_sort i_what i_at i_end i_worth i_faultKind i_faultPlace i_got i_worked i_deliveries i_isPlanned i_bestDone i_bestCost)), (q 0, .inl (E.2.1 3, 800, .inl (upd f_51 (nI ((((((((((ln + 1) + 1) + 1) + 1) + 1) + 1) + 1) + 1) + 1) + 1)).toNatClampNeg (vp_nar .byte x_54))))] := hD
    obtain ⟨f_56, ef_56⟩ : ∃ g : Nat → Int32, g = upd f_51 (nI ((((((((((ln + 1) + 1) + 1) + 1) + 1) + 1) + 1) + 1) + 1) + 1)).toNatClampNeg (vp_nar .byte x_54) := ⟨_, rfl⟩
    rw [← ef_56] at hP hD
    refine lv_aload_n hx hb dX12_feed_93 rfl (lv_at hl 3 rfl) ?_
    refine lv_dup hx hb dX12_feed_94 rfl ?_
    refine va_get (D := E.1) (ci := 12) (v := .int (nI ((((((((((ln + 1) + 1) + 1) + 1) + 1) + 1) + 1) + 1) + 1) + 1))) (C := RX12) (T := TX12) (N := 59) hx hb hts inX12 hown hK hP 0 rfl rfl 1 (by decide) fl152 (fun _ h9 => h9) rfl dX12_feed_95 ?_
    refine lv_iconst (v := 1) hx hb dX12_feed_98 (by decide) ?_
    refine lv_iadd hx hb dX12_feed_99 ?_
    refine lv_topi (fun x_57 ex_57 => ?_)
    obtain rfl : x_57 = nI (((((((((((ln + 1) + 1) + 1) + 1) + 1) + 1) + 1) + 1) + 1) + 1) + 1) := ex_57.trans (nI_1 _)
    refine va_put (D := E.1) (ci := 12) (v := .int (nI (((((((((((ln + 1) + 1) + 1) + 1) + 1) + 1) + 1) + 1) + 1) + 1) + 1))) (ty := .int) (C := RX12) (T := TX12) (N := 59) hx hb hts inX12 tyX12 tyX12_ok nmX12 hown hK hP hD hS 0 rfl rfl 1 (by decide) fl152 (fun _ h9 => h9) rfl (by decide +kernel) rfl rfl (Nat.le_of_ble_eq_true rfl) dX12_feed_100 (fun H locs hP hD hS => ?_)
    have hP : va_P E.1 vwCl [(h0, .inr (12, mG q (nI (((((((((((ln + 1) + 1) + 1) + 1) + 1) + 1) + 1) + 1) + 1) + 1) + 1)) i_size i_sort i_what i_at i_end i_worth i_faultKind i_faultPlace i_got i_worked i_deliveries i_isPlanned i_bestDone i_bestCost)), (q 0, .inl (E.2.1 3, 800, .inl f_56))] H := hP
    have hD : va_D A [(h0, .inr (12, mG q (nI (((((((((((ln + 1) + 1) + 1) + 1) + 1) + 1) + 1) + 1) + 1) + 1) + 1)) i_size i_sort i_what i_at i_end i_worth i_faultKind i_faultPlace i_got i_worked i_deliveries i_isPlanned i_bestDone i_bestCost)), (q 0, .inl (E.2.1 3, 800, .inl f_56))] := hD
    refine lv_iinc (v := 0) (lv' := [(8, .int 0), (7, .int a3), (6, .int 2), (0, .ref h0), (1, .int a1), (2, .int a2), (3, .int a3), (4, .int a4), (5, .int a5)]) hx hb dX12_feed_103 hl (k := 0) rfl (by decide) (by decide) rfl (fun ls hl => ?_)
    refine lv_goto (tgt := 73) hx hb dX12_feed_106 (by decide) ?_
    refine lv_iload hx hb dX12_feed_73 (lv_at hl 0 rfl) ?_
    refine lv_if_lt (tgt := 109) hx hb dX12_feed_75 (by decide) (fun c9 => absurd c9 (by decide)) (fun _ => ?_)
    refine lv_aload_n hx hb dX12_feed_78 rfl (lv_at hl 3 rfl) ?_
    refine va_get (D := E.1) (ci := 12) (v := .ref (q 0)) (C := RX12) (T := TX12) (N := 59) hx hb hts inX12 hown hK hP 0 rfl rfl 0 (by decide) fl7 (fun _ h9 => h9) rfl dX12_feed_79 ?_
    refine lv_aload_n hx hb dX12_feed_82 rfl (lv_at hl 3 rfl) ?_
    refine va_get (D := E.1) (ci := 12) (v := .int (nI (((((((((((ln + 1) + 1) + 1) + 1) + 1) + 1) + 1) + 1) + 1) + 1) + 1))) (C := RX12) (T := TX12) (N := 59) hx hb hts inX12 hown hK hP 0 rfl rfl 1 (by decide) fl152 (fun _ h9 => h9) rfl dX12_feed_83 ?_
    refine lv_iload hx hb dX12_feed_86 (lv_at hl 1 rfl) ?_
    refine lv_iload hx hb dX12_feed_88 (lv_at hl 0 rfl) ?_
    refine lv_ishr hx hb dX12_feed_90 ?_
    refine lv_topi (fun x_58 ex_58 => ?_)
    refine lv_i2b hx hb dX12_feed_91 rfl ?_
    refine lv_topi (fun x_59 ex_59 => ?_)
    have hi_60 : vp_in (nI (((((((((((ln + 1) + 1) + 1) + 1) + 1) + 1) + 1) + 1) + 1) + 1) + 1)) 800 := vp_in_nI (by omega) (by decide)
    refine va_bast hx hb hK hP hD hS 1 3 rfl rfl hi_60 dX12_feed_92 (fun H locs hP hD hS => ?_)
    have hP : va_P E.1 vwCl [(h0, .inr (12, mG q (nI (((((((((((ln + 1) + 1) + 1) + 1) + 1) + 1) + 1) + 1) + 1) + 1) + 1)) i_size i_sort i_what i_at i_end i_worth i_faultKind i_faultPlace i_got i_worked i_deliveries i_isPlanned i_bestDone i_bestCost)), (q 0, .inl (E.2.1 3, 800, .inl (upd f_56 (nI (((((((((((ln + 1) + 1) + 1) + 1) + 1) + 1) + 1) + 1) + 1) + 1) + 1)).toNatClampNeg (vp_nar .byte x_59))))] H := hP
    have hD : va_D A [(h0, .inr (12, mG q (nI (((((((((((ln + 1) + 1) + 1) + 1) + 1) + 1) + 1) + 1) + 1) + 1) + 1)) i_size i_sort i_what i_at i_end i_worth i_faultKind i_faultPlace i_got i_worked i_deliveries i_isPlanned i_bestDone i_bestCost)), (q 0, .inl (E.2.1 3, 800, .inl (upd f_56 (nI (((((((((((ln + 1) + 1) + 1) + 1) + 1) + 1) + 1) + 1) + 1) + 1) + 1)).toNatClampNeg (vp_nar .byte x_59))))] := hD
    obtain ⟨f_61, ef_61⟩ : ∃ g : Nat → Int32, g = upd f_56 (nI (((((((((((ln + 1) + 1) + 1) + 1) + 1) + 1) + 1) + 1) + 1) + 1) + 1)).toNatClampNeg (vp_nar .byte x_59) := ⟨_, rfl⟩
    rw [← ef_61] at hP hD
    refine lv_aload_n hx hb dX12_feed_93 rfl (lv_at hl 3 rfl) ?_
    refine lv_dup hx hb dX12_feed_94 rfl ?_
    refine va_get (D := E.1) (ci := 12) (v := .int (nI (((((((((((ln + 1) + 1) + 1) + 1) + 1) + 1) + 1) + 1) + 1) + 1) + 1))) (C := RX12) (T := TX12) (N := 59) hx hb hts inX12 hown hK hP 0 rfl rfl 1 (by decide) fl152 (fun _ h9 => h9) rfl dX12_feed_95 ?_
    refine lv_iconst (v := 1) hx hb dX12_feed_98 (by decide) ?_
    refine lv_iadd hx hb dX12_feed_99 ?_
    refine lv_topi (fun x_62 ex_62 => ?_)
    obtain rfl : x_62 = nI ((((((((((((ln + 1) + 1) + 1) + 1) + 1) + 1) + 1) + 1) + 1) + 1) + 1) + 1) := ex_62.trans (nI_1 _)
    refine va_put (D := E.1) (ci := 12) (v := .int (nI ((((((((((((ln + 1) + 1) + 1) + 1) + 1) + 1) + 1) + 1) + 1) + 1) + 1) + 1))) (ty := .int) (C := RX12) (T := TX12) (N := 59) hx hb hts inX12 tyX12 tyX12_ok nmX12 hown hK hP hD hS 0 rfl rfl 1 (by decide) fl152 (fun _ h9 => h9) rfl (by decide +kernel) rfl rfl (Nat.le_of_ble_eq_true rfl) dX12_feed_100 (fun H locs hP hD hS => ?_)
    have hP : va_P E.1 vwCl [(h0, .inr (12, mG q (nI ((((((((((((ln + 1) + 1) + 1) + 1) + 1) + 1) + 1) + 1) + 1) + 1) + 1) + 1)) i_size i_sort i_what i_at i_end i_worth i_faultKind i_faultPlace i_got i_worked i_deliveries i_isPlanned i_bestDone i_bestCost)), (q 0, .inl (E.2.1 3, 800, .inl f_61))] H := hP
    have hD : va_D A [(h0, .inr (12, mG q (nI ((((((((((((ln + 1) + 1) + 1) + 1) + 1) + 1) + 1) + 1) + 1) + 1) + 1) + 1)) i_size i_sort i_what i_at i_end i_worth i_faultKind i_faultPlace i_got i_worked i_deliveries i_isPlanned i_bestDone i_bestCost)), (q 0, .inl (E.2.1 3, 800, .inl f_61))] := hD
    refine lv_iinc (v := (-8)) (lv' := [(8, .int (-8)), (7, .int a3), (6, .int 2), (0, .ref h0), (1, .int a1), (2, .int a2), (3, .int a3), (4, .int a4), (5, .int a5)]) hx hb dX12_feed_103 hl (k := 0) rfl (by decide) (by decide) rfl (fun ls hl => ?_)
    refine lv_goto (tgt := 73) hx hb dX12_feed_106 (by decide) ?_
    refine lv_iload hx hb dX12_feed_73 (lv_at hl 0 rfl) ?_
    refine lv_if_lt (tgt := 109) hx hb dX12_feed_75 (by decide) (fun _ => ?_) (fun c9 => absurd c9 (by decide))
    refine lv_iinc (v := 3) (lv' := [(6, .int 3), (8, .int (-8)), (7, .int a3), (0, .ref h0), (1, .int a1), (2, .int a2), (3, .int a3), (4, .int a4), (5, .int a5)]) hx hb dX12_feed_109 hl (k := 2) rfl (by decide) (by decide) rfl (fun ls hl => ?_)
    refine lv_goto (tgt := 19) hx hb dX12_feed_112 (by decide) ?_
    refine lv_iload hx hb dX12_feed_19 (lv_at hl 0 rfl) ?_
    refine lv_iconst (v := 5) hx hb dX12_feed_21 (by decide) ?_
    refine lv_icmp_ge (tgt := 115) hx hb dX12_feed_22 (by decide) (fun c9 => absurd c9 (by decide)) (fun _ => ?_)
    refine lv_iload hx hb dX12_feed_25 (lv_at hl 0 rfl) ?_
    refine lv_if_ne (tgt := 34) hx hb dX12_feed_27 (by decide) (fun _ => ?_) (fun c9 => absurd c9 (by decide))
    refine lv_iload hx hb dX12_feed_34 (lv_at hl 0 rfl) ?_
    refine lv_iconst (v := 1) hx hb dX12_feed_36 (by decide) ?_
    refine lv_icmp_ne (tgt := 44) hx hb dX12_feed_37 (by decide) (fun _ => ?_) (fun c9 => absurd c9 (by decide))
    refine lv_iload hx hb dX12_feed_44 (lv_at hl 0 rfl) ?_
    refine lv_iconst (v := 2) hx hb dX12_feed_46 (by decide) ?_
    refine lv_icmp_ne (tgt := 54) hx hb dX12_feed_47 (by decide) (fun _ => ?_) (fun c9 => absurd c9 (by decide))
    refine lv_iload hx hb dX12_feed_54 (lv_at hl 0 rfl) ?_
    refine lv_iconst (v := 3) hx hb dX12_feed_56 (by decide) ?_
    refine lv_icmp_ne (tgt := 65) hx hb dX12_feed_57 (by decide) (fun c9 => absurd c9 (by decide)) (fun _ => ?_)
    refine lv_iload hx hb dX12_feed_60 (lv_at hl 7 rfl) ?_
    refine lv_goto (tgt := 67) hx hb dX12_feed_62 (by decide) ?_
    refine lv_istore (lv' := [(7, .int a4), (6, .int 3), (8, .int (-8)), (0, .ref h0), (1, .int a1), (2, .int a2), (3, .int a3), (4, .int a4), (5, .int a5)]) hx hb dX12_feed_67 hl (by decide) rfl (fun ls hl => ?_)
    refine lv_bipush (v := 24) hx hb dX12_feed_69 (by decide) ?_
    refine lv_istore (lv' := [(8, .int 24), (7, .int a4), (6, .int 3), (0, .ref h0), (1, .int a1), (2, .int a2), (3, .int a3), (4, .int a4), (5, .int a5)]) hx hb dX12_feed_71 hl (by decide) rfl (fun ls hl => ?_)
    refine lv_iload hx hb dX12_feed_73 (lv_at hl 0 rfl) ?_
    refine lv_if_lt (tgt := 109) hx hb dX12_feed_75 (by decide) (fun c9 => absurd c9 (by decide)) (fun _ => ?_)
    refine lv_aload_n hx hb dX12_feed_78 rfl (lv_at hl 3 rfl) ?_
    refine va_get (D := E.1) (ci := 12) (v := .ref (q 0)) (C := RX12) (T := TX12) (N := 59) hx hb hts inX12 hown hK hP 0 rfl rfl 0 (by decide) fl7 (fun _ h9 => h9) rfl dX12_feed_79 ?_
    refine lv_aload_n hx hb dX12_feed_82 rfl (lv_at hl 3 rfl) ?_
    refine va_get (D := E.1) (ci := 12) (v := .int (nI ((((((((((((ln + 1) + 1) + 1) + 1) + 1) + 1) + 1) + 1) + 1) + 1) + 1) + 1))) (C := RX12) (T := TX12) (N := 59) hx hb hts inX12 hown hK hP 0 rfl rfl 1 (by decide) fl152 (fun _ h9 => h9) rfl dX12_feed_83 ?_
    refine lv_iload hx hb dX12_feed_86 (lv_at hl 1 rfl) ?_
    refine lv_iload hx hb dX12_feed_88 (lv_at hl 0 rfl) ?_
    refine lv_ishr hx hb dX12_feed_90 ?_
    refine lv_topi (fun x_63 ex_63 => ?_)
    refine lv_i2b hx hb dX12_feed_91 rfl ?_
    refine lv_topi (fun x_64 ex_64 => ?_)
    have hi_65 : vp_in (nI ((((((((((((ln + 1) + 1) + 1) + 1) + 1) + 1) + 1) + 1) + 1) + 1) + 1) + 1)) 800 := vp_in_nI (by omega) (by decide)
    refine va_bast hx hb hK hP hD hS 1 3 rfl rfl hi_65 dX12_feed_92 (fun H locs hP hD hS => ?_)
    have hP : va_P E.1 vwCl [(h0, .inr (12, mG q (nI ((((((((((((ln + 1) + 1) + 1) + 1) + 1) + 1) + 1) + 1) + 1) + 1) + 1) + 1)) i_size i_sort i_what i_at i_end i_worth i_faultKind i_faultPlace i_got i_worked i_deliveries i_isPlanned i_bestDone i_bestCost)), (q 0, .inl (E.2.1 3, 800, .inl (upd f_61 (nI ((((((((((((ln + 1) + 1) + 1) + 1) + 1) + 1) + 1) + 1) + 1) + 1) + 1) + 1)).toNatClampNeg (vp_nar .byte x_64))))] H := hP
    have hD : va_D A [(h0, .inr (12, mG q (nI ((((((((((((ln + 1) + 1) + 1) + 1) + 1) + 1) + 1) + 1) + 1) + 1) + 1) + 1)) i_size i_sort i_what i_at i_end i_worth i_faultKind i_faultPlace i_got i_worked i_deliveries i_isPlanned i_bestDone i_bestCost)), (q 0, .inl (E.2.1 3, 800, .inl (upd f_61 (nI ((((((((((((ln + 1) + 1) + 1) + 1) + 1) + 1) + 1) + 1) + 1) + 1) + 1) + 1)).toNatClampNeg (vp_nar .byte x_64))))] := hD
    obtain ⟨f_66, ef_66⟩ : ∃ g : Nat → Int32, g = upd f_61 (nI ((((((((((((ln + 1) + 1) + 1) + 1) + 1) + 1) + 1) + 1) + 1) + 1) + 1) + 1)).toNatClampNeg (vp_nar .byte x_64) := ⟨_, rfl⟩
    rw [← ef_66] at hP hD
    refine lv_aload_n hx hb dX12_feed_93 rfl (lv_at hl 3 rfl) ?_
    refine lv_dup hx hb dX12_feed_94 rfl ?_
    refine va_get (D := E.1) (ci := 12) (v := .int (nI ((((((((((((ln + 1) + 1) + 1) + 1) + 1) + 1) + 1) + 1) + 1) + 1) + 1) + 1))) (C := RX12) (T := TX12) (N := 59) hx hb hts inX12 hown hK hP 0 rfl rfl 1 (by decide) fl152 (fun _ h9 => h9) rfl dX12_feed_95 ?_
    refine lv_iconst (v := 1) hx hb dX12_feed_98 (by decide) ?_
    refine lv_iadd hx hb dX12_feed_99 ?_
    refine lv_topi (fun x_67 ex_67 => ?_)
    obtain rfl : x_67 = nI (((((((((((((ln + 1) + 1) + 1) + 1) + 1) + 1) + 1) + 1) + 1) + 1) + 1) + 1) + 1) := ex_67.trans (nI_1 _)
    refine va_put (D := E.1) (ci := 12) (v := .int (nI (((((((((((((ln + 1) + 1) + 1) + 1) + 1) + 1) + 1) + 1) + 1) + 1) + 1) + 1) + 1))) (ty := .int) (C := RX12) (T := TX12) (N := 59) hx hb hts inX12 tyX12 tyX12_ok nmX12 hown hK hP hD hS 0 rfl rfl 1 (by decide) fl152 (fun _ h9 => h9) rfl (by decide +kernel) rfl rfl (Nat.le_of_ble_eq_true rfl) dX12_feed_100 (fun H locs hP hD hS => ?_)
    have hP : va_P E.1 vwCl [(h0, .inr (12, mG q (nI (((((((((((((ln + 1) + 1) + 1) + 1) + 1) + 1) + 1) + 1) + 1) + 1) + 1) + 1) + 1)) i_size i_sort i_what i_at i_end i_worth i_faultKind i_faultPlace i_got i_worked i_deliveries i_isPlanned i_bestDone i_bestCost)), (q 0, .inl (E.2.1 3, 800, .inl f_66))] H := hP
    have hD : va_D A [(h0, .inr (12, mG q (nI (((((((((((((ln + 1) + 1) + 1) + 1) + 1) + 1) + 1) + 1) + 1) + 1) + 1) + 1) + 1)) i_size i_sort i_what i_at i_end i_worth i_faultKind i_faultPlace i_got i_worked i_deliveries i_isPlanned i_bestDone i_bestCost)), (q 0, .inl (E.2.1 3, 800, .inl f_66))] := hD
    refine lv_iinc (v := 16) (lv' := [(8, .int 16), (7, .int a4), (6, .int 3), (0, .ref h0), (1, .int a1), (2, .int a2), (3, .int a3), (4, .int a4), (5, .int a5)]) hx hb dX12_feed_103 hl (k := 0) rfl (by decide) (by decide) rfl (fun ls hl => ?_)
    refine lv_goto (tgt := 73) hx hb dX12_feed_106 (by decide) ?_
    refine lv_iload hx hb dX12_feed_73 (lv_at hl 0 rfl) ?_
    refine lv_if_lt (tgt := 109) hx hb dX12_feed_75 (by decide) (fun c9 => absurd c9 (by decide)) (fun _ => ?_)
    refine lv_aload_n hx hb dX12_feed_78 rfl (lv_at hl 3 rfl) ?_
    refine va_get (D := E.1) (ci := 12) (v := .ref (q 0)) (C := RX12) (T := TX12) (N := 59) hx hb hts inX12 hown hK hP 0 rfl rfl 0 (by decide) fl7 (fun _ h9 => h9) rfl dX12_feed_79 ?_
    refine lv_aload_n hx hb dX12_feed_82 rfl (lv_at hl 3 rfl) ?_
    refine va_get (D := E.1) (ci := 12) (v := .int (nI (((((((((((((ln + 1) + 1) + 1) + 1) + 1) + 1) + 1) + 1) + 1) + 1) + 1) + 1) + 1))) (C := RX12) (T := TX12) (N := 59) hx hb hts inX12 hown hK hP 0 rfl rfl 1 (by decide) fl152 (fun _ h9 => h9) rfl dX12_feed_83 ?_
    refine lv_iload hx hb dX12_feed_86 (lv_at hl 1 rfl) ?_
    refine lv_iload hx hb dX12_feed_88 (lv_at hl 0 rfl) ?_
    refine lv_ishr hx hb dX12_feed_90 ?_
    refine lv_topi (fun x_68 ex_68 => ?_)
    refine lv_i2b hx hb dX12_feed_91 rfl ?_
    refine lv_topi (fun x_69 ex_69 => ?_)
    have hi_70 : vp_in (nI (((((((((((((ln + 1) + 1) + 1) + 1) + 1) + 1) + 1) + 1) + 1) + 1) + 1) + 1) + 1)) 800 := vp_in_nI (by omega) (by decide)
    refine va_bast hx hb hK hP hD hS 1 3 rfl rfl hi_70 dX12_feed_92 (fun H locs hP hD hS => ?_)
    have hP : va_P E.1 vwCl [(h0, .inr (12, mG q (nI (((((((((((((ln + 1) + 1) + 1) + 1) + 1) + 1) + 1) + 1) + 1) + 1) + 1) + 1) + 1)) i_size i_sort i_what i_at i_end i_worth i_faultKind i_faultPlace i_got i_worked i_deliveries i_isPlanned i_bestDone i_bestCost)), (q 0, .inl (E.2.1 3, 800, .inl (upd f_66 (nI (((((((((((((ln + 1) + 1) + 1) + 1) + 1) + 1) + 1) + 1) + 1) + 1) + 1) + 1) + 1)).toNatClampNeg (vp_nar .byte x_69))))] H := hP
    have hD : va_D A [(h0, .inr (12, mG q (nI (((((((((((((ln + 1) + 1) + 1) + 1) + 1) + 1) + 1) + 1) + 1) + 1) + 1) + 1) + 1)) i_size i_sort i_what i_at i_end i_worth i_faultKind i_faultPlace i_got i_worked i_deliveries i_isPlanned i_bestDone i_bestCost)), (q 0, .inl (E.2.1 3, 800, .inl (upd f_66 (nI (((((((((((((ln + 1) + 1) + 1) + 1) + 1) + 1) + 1) + 1) + 1) + 1) + 1) + 1) + 1)).toNatClampNeg (vp_nar .byte x_69))))] := hD
    obtain ⟨f_71, ef_71⟩ : ∃ g : Nat → Int32, g = upd f_66 (nI (((((((((((((ln + 1) + 1) + 1) + 1) + 1) + 1) + 1) + 1) + 1) + 1) + 1) + 1) + 1)).toNatClampNeg (vp_nar .byte x_69) := ⟨_, rfl⟩
    rw [← ef_71] at hP hD
    refine lv_aload_n hx hb dX12_feed_93 rfl (lv_at hl 3 rfl) ?_
    refine lv_dup hx hb dX12_feed_94 rfl ?_
    refine va_get (D := E.1) (ci := 12) (v := .int (nI (((((((((((((ln + 1) + 1) + 1) + 1) + 1) + 1) + 1) + 1) + 1) + 1) + 1) + 1) + 1))) (C := RX12) (T := TX12) (N := 59) hx hb hts inX12 hown hK hP 0 rfl rfl 1 (by decide) fl152 (fun _ h9 => h9) rfl dX12_feed_95 ?_
    refine lv_iconst (v := 1) hx hb dX12_feed_98 (by decide) ?_
    refine lv_iadd hx hb dX12_feed_99 ?_
    refine lv_topi (fun x_72 ex_72 => ?_)
    obtain rfl : x_72 = nI ((((((((((((((ln + 1) + 1) + 1) + 1) + 1) + 1) + 1) + 1) + 1) + 1) + 1) + 1) + 1) + 1) := ex_72.trans (nI_1 _)
    refine va_put (D := E.1) (ci := 12) (v := .int (nI ((((((((((((((ln + 1) + 1) + 1) + 1) + 1) + 1) + 1) + 1) + 1) + 1) + 1) + 1) + 1) + 1))) (ty := .int) (C := RX12) (T := TX12) (N := 59) hx hb hts inX12 tyX12 tyX12_ok nmX12 hown hK hP hD hS 0 rfl rfl 1 (by decide) fl152 (fun _ h9 => h9) rfl (by decide +kernel) rfl rfl (Nat.le_of_ble_eq_true rfl) dX12_feed_100 (fun H locs hP hD hS => ?_)
    have hP : va_P E.1 vwCl [(h0, .inr (12, mG q (nI ((((((((((((((ln + 1) + 1) + 1) + 1) + 1) + 1) + 1) + 1) + 1) + 1) + 1) + 1) + 1) + 1)) i_size i_sort i_what i_at i_end i_worth i_faultKind i_faultPlace i_got i_worked i_deliveries i_isPlanned i_bestDone i_bestCost)), (q 0, .inl (E.2.1 3, 800, .inl f_71))] H := hP
    have hD : va_D A [(h0, .inr (12, mG q (nI ((((((((((((((ln + 1) + 1) + 1) + 1) + 1) + 1) + 1) + 1) + 1) + 1) + 1) + 1) + 1) + 1)) i_size i_sort i_what i_at i_end i_worth i_faultKind i_faultPlace i_got i_worked i_deliveries i_isPlanned i_bestDone i_bestCost)), (q 0, .inl (E.2.1 3, 800, .inl f_71))] := hD
    refine lv_iinc (v := 8) (lv' := [(8, .int 8), (7, .int a4), (6, .int 3), (0, .ref h0), (1, .int a1), (2, .int a2), (3, .int a3), (4, .int a4), (5, .int a5)]) hx hb dX12_feed_103 hl (k := 0) rfl (by decide) (by decide) rfl (fun ls hl => ?_)
    refine lv_goto (tgt := 73) hx hb dX12_feed_106 (by decide) ?_
    refine lv_iload hx hb dX12_feed_73 (lv_at hl 0 rfl) ?_
    refine lv_if_lt (tgt := 109) hx hb dX12_feed_75 (by decide) (fun c9 => absurd c9 (by decide)) (fun _ => ?_)
    refine lv_aload_n hx hb dX12_feed_78 rfl (lv_at hl 3 rfl) ?_
    refine va_get (D := E.1) (ci := 12) (v := .ref (q 0)) (C := RX12) (T := TX12) (N := 59) hx hb hts inX12 hown hK hP 0 rfl rfl 0 (by decide) fl7 (fun _ h9 => h9) rfl dX12_feed_79 ?_
    refine lv_aload_n hx hb dX12_feed_82 rfl (lv_at hl 3 rfl) ?_
    refine va_get (D := E.1) (ci := 12) (v := .int (nI ((((((((((((((ln + 1) + 1) + 1) + 1) + 1) + 1) + 1) + 1) + 1) + 1) + 1) + 1) + 1) + 1))) (C := RX12) (T := TX12) (N := 59) hx hb hts inX12 hown hK hP 0 rfl rfl 1 (by decide) fl152 (fun _ h9 => h9) rfl dX12_feed_83 ?_
    refine lv_iload hx hb dX12_feed_86 (lv_at hl 1 rfl) ?_
    refine lv_iload hx hb dX12_feed_88 (lv_at hl 0 rfl) ?_
    refine lv_ishr hx hb dX12_feed_90 ?_
    refine lv_topi (fun x_73 ex_73 => ?_)
    refine lv_i2b hx hb dX12_feed_91 rfl ?_
    refine lv_topi (fun x_74 ex_74 => ?_)
    have hi_75 : vp_in (nI ((((((((((((((ln + 1) + 1) + 1) + 1) + 1) + 1) + 1) + 1) + 1) + 1) + 1) + 1) + 1) + 1)) 800 := vp_in_nI (by omega) (by decide)
    refine va_bast hx hb hK hP hD hS 1 3 rfl rfl hi_75 dX12_feed_92 (fun H locs hP hD hS => ?_)
    have hP : va_P E.1 vwCl [(h0, .inr (12, mG q (nI ((((((((((((((ln + 1) + 1) + 1) + 1) + 1) + 1) + 1) + 1) + 1) + 1) + 1) + 1) + 1) + 1)) i_size i_sort i_what i_at i_end i_worth i_faultKind i_faultPlace i_got i_worked i_deliveries i_isPlanned i_bestDone i_bestCost)), (q 0, .inl (E.2.1 3, 800, .inl (upd f_71 (nI ((((((((((((((ln + 1) + 1) + 1) + 1) + 1) + 1) + 1) + 1) + 1) + 1) + 1) + 1) + 1) + 1)).toNatClampNeg (vp_nar .byte x_74))))] H := hP
    have hD : va_D A [(h0, .inr (12, mG q (nI ((((((((((((((ln + 1) + 1) + 1) + 1) + 1) + 1) + 1) + 1) + 1) + 1) + 1) + 1) + 1) + 1)) i_size i_sort i_what i_at i_end i_worth i_faultKind i_faultPlace i_got i_worked i_deliveries i_isPlanned i_bestDone i_bestCost)), (q 0, .inl (E.2.1 3, 800, .inl (upd f_71 (nI ((((((((((((((ln + 1) + 1) + 1) + 1) + 1) + 1) + 1) + 1) + 1) + 1) + 1) + 1) + 1) + 1)).toNatClampNeg (vp_nar .byte x_74))))] := hD
    obtain ⟨f_76, ef_76⟩ : ∃ g : Nat → Int32, g = upd f_71 (nI ((((((((((((((ln + 1) + 1) + 1) + 1) + 1) + 1) + 1) + 1) + 1) + 1) + 1) + 1) + 1) + 1)).toNatClampNeg (vp_nar .byte x_74) := ⟨_, rfl⟩
    rw [← ef_76] at hP hD
    refine lv_aload_n hx hb dX12_feed_93 rfl (lv_at hl 3 rfl) ?_
    refine lv_dup hx hb dX12_feed_94 rfl ?_
    refine va_get (D := E.1) (ci := 12) (v := .int (nI ((((((((((((((ln + 1) + 1) + 1) + 1) + 1) + 1) + 1) + 1) + 1) + 1) + 1) + 1) + 1) + 1))) (C := RX12) (T := TX12) (N := 59) hx hb hts inX12 hown hK hP 0 rfl rfl 1 (by decide) fl152 (fun _ h9 => h9) rfl dX12_feed_95 ?_
    refine lv_iconst (v := 1) hx hb dX12_feed_98 (by decide) ?_
    refine lv_iadd hx hb dX12_feed_99 ?_
    refine lv_topi (fun x_77 ex_77 => ?_)
    obtain rfl : x_77 = nI (((((((((((((((ln + 1) + 1) + 1) + 1) + 1) + 1) + 1) + 1) + 1) + 1) + 1) + 1) + 1) + 1) + 1) := ex_77.trans (nI_1 _)
    refine va_put (D := E.1) (ci := 12) (v := .int (nI (((((((((((((((ln + 1) + 1) + 1) + 1) + 1) + 1) + 1) + 1) + 1) + 1) + 1) + 1) + 1) + 1) + 1))) (ty := .int) (C := RX12) (T := TX12) (N := 59) hx hb hts inX12 tyX12 tyX12_ok nmX12 hown hK hP hD hS 0 rfl rfl 1 (by decide) fl152 (fun _ h9 => h9) rfl (by decide +kernel) rfl rfl (Nat.le_of_ble_eq_true rfl) dX12_feed_100 (fun H locs hP hD hS => ?_)
    have hP : va_P E.1 vwCl [(h0, .inr (12, mG q (nI (((((((((((((((ln + 1) + 1) + 1) + 1) + 1) + 1) + 1) + 1) + 1) + 1) + 1) + 1) + 1) + 1) + 1)) i_size i_sort i_what i_at i_end i_worth i_faultKind i_faultPlace i_got i_worked i_deliveries i_isPlanned i_bestDone i_bestCost)), (q 0, .inl (E.2.1 3, 800, .inl f_76))] H := hP
    have hD : va_D A [(h0, .inr (12, mG q (nI (((((((((((((((ln + 1) + 1) + 1) + 1) + 1) + 1) + 1) + 1) + 1) + 1) + 1) + 1) + 1) + 1) + 1)) i_size i_sort i_what i_at i_end i_worth i_faultKind i_faultPlace i_got i_worked i_deliveries i_isPlanned i_bestDone i_bestCost)), (q 0, .inl (E.2.1 3, 800, .inl f_76))] := hD
    refine lv_iinc (v := 0) (lv' := [(8, .int 0), (7, .int a4), (6, .int 3), (0, .ref h0), (1, .int a1), (2, .int a2), (3, .int a3), (4, .int a4), (5, .int a5)]) hx hb dX12_feed_103 hl (k := 0) rfl (by decide) (by decide) rfl (fun ls hl => ?_)
    refine lv_goto (tgt := 73) hx hb dX12_feed_106 (by decide) ?_
    refine lv_iload hx hb dX12_feed_73 (lv_at hl 0 rfl) ?_
    refine lv_if_lt (tgt := 109) hx hb dX12_feed_75 (by decide) (fun c9 => absurd c9 (by decide)) (fun _ => ?_)
    refine lv_aload_n hx hb dX12_feed_78 rfl (lv_at hl 3 rfl) ?_
    refine va_get (D := E.1) (ci := 12) (v := .ref (q 0)) (C := RX12) (T := TX12) (N := 59) hx hb hts inX12 hown hK hP 0 rfl rfl 0 (by decide) fl7 (fun _ h9 => h9) rfl dX12_feed_79 ?_
    refine lv_aload_n hx hb dX12_feed_82 rfl (lv_at hl 3 rfl) ?_
    refine va_get (D := E.1) (ci := 12) (v := .int (nI (((((((((((((((ln + 1) + 1) + 1) + 1) + 1) + 1) + 1) + 1) + 1) + 1) + 1) + 1) + 1) + 1) + 1))) (C := RX12) (T := TX12) (N := 59) hx hb hts inX12 hown hK hP 0 rfl rfl 1 (by decide) fl152 (fun _ h9 => h9) rfl dX12_feed_83 ?_
    refine lv_iload hx hb dX12_feed_86 (lv_at hl 1 rfl) ?_
    refine lv_iload hx hb dX12_feed_88 (lv_at hl 0 rfl) ?_
    refine lv_ishr hx hb dX12_feed_90 ?_
    refine lv_topi (fun x_78 ex_78 => ?_)
    refine lv_i2b hx hb dX12_feed_91 rfl ?_
    refine lv_topi (fun x_79 ex_79 => ?_)
    have hi_80 : vp_in (nI (((((((((((((((ln + 1) + 1) + 1) + 1) + 1) + 1) + 1) + 1) + 1) + 1) + 1) + 1) + 1) + 1) + 1)) 800 := vp_in_nI (by omega) (by decide)
    refine va_bast hx hb hK hP hD hS 1 3 rfl rfl hi_80 dX12_feed_92 (fun H locs hP hD hS => ?_)
    have hP : va_P E.1 vwCl [(h0, .inr (12, mG q (nI (((((((((((((((ln + 1) + 1) + 1) + 1) + 1) + 1) + 1) + 1) + 1) + 1) + 1) + 1) + 1) + 1) + 1)) i_size i_sort i_what i_at i_end i_worth i_faultKind i_faultPlace i_got i_worked i_deliveries i_isPlanned i_bestDone i_bestCost)), (q 0, .inl (E.2.1 3, 800, .inl (upd f_76 (nI (((((((((((((((ln + 1) + 1) + 1) + 1) + 1) + 1) + 1) + 1) + 1) + 1) + 1) + 1) + 1) + 1) + 1)).toNatClampNeg (vp_nar .byte x_79))))] H := hP
    have hD : va_D A [(h0, .inr (12, mG q (nI (((((((((((((((ln + 1) + 1) + 1) + 1) + 1) + 1) + 1) + 1) + 1) + 1) + 1) + 1) + 1) + 1) + 1)) i_size i_sort i_what i_at i_end i_worth i_faultKind i_faultPlace i_got i_worked i_deliveries i_isPlanned i_bestDone i_bestCost)), (q 0, .inl (E.2.1 3, 800, .inl (upd f_76 (nI (((((((((((((((ln + 1) + 1) + 1) + 1) + 1) + 1) + 1) + 1) + 1) + 1) + 1) + 1) + 1) + 1) + 1)).toNatClampNeg (vp_nar .byte x_79))))] := hD
    obtain ⟨f_81, ef_81⟩ : ∃ g : Nat → Int32, g = upd f_76 (nI (((((((((((((((ln + 1) + 1) + 1) + 1) + 1) + 1) + 1) + 1) + 1) + 1) + 1) + 1) + 1) + 1) + 1)).toNatClampNeg (vp_nar .byte x_79) := ⟨_, rfl⟩
    rw [← ef_81] at hP hD
    refine lv_aload_n hx hb dX12_feed_93 rfl (lv_at hl 3 rfl) ?_
    refine lv_dup hx hb dX12_feed_94 rfl ?_
    refine va_get (D := E.1) (ci := 12) (v := .int (nI (((((((((((((((ln + 1) + 1) + 1) + 1) + 1) + 1) + 1) + 1) + 1) + 1) + 1) + 1) + 1) + 1) + 1))) (C := RX12) (T := TX12) (N := 59) hx hb hts inX12 hown hK hP 0 rfl rfl 1 (by decide) fl152 (fun _ h9 => h9) rfl dX12_feed_95 ?_
    refine lv_iconst (v := 1) hx hb dX12_feed_98 (by decide) ?_
    refine lv_iadd hx hb dX12_feed_99 ?_
    refine lv_topi (fun x_82 ex_82 => ?_)
    obtain rfl : x_82 = nI ((((((((((((((((ln + 1) + 1) + 1) + 1) + 1) + 1) + 1) + 1) + 1) + 1) + 1) + 1) + 1) + 1) + 1) + 1) := ex_82.trans (nI_1 _)
    refine va_put (D := E.1) (ci := 12) (v := .int (nI ((((((((((((((((ln + 1) + 1) + 1) + 1) + 1) + 1) + 1) + 1) + 1) + 1) + 1) + 1) + 1) + 1) + 1) + 1))) (ty := .int) (C := RX12) (T := TX12) (N := 59) hx hb hts inX12 tyX12 tyX12_ok nmX12 hown hK hP hD hS 0 rfl rfl 1 (by decide) fl152 (fun _ h9 => h9) rfl (by decide +kernel) rfl rfl (Nat.le_of_ble_eq_true rfl) dX12_feed_100 (fun H locs hP hD hS => ?_)
    have hP : va_P E.1 vwCl [(h0, .inr (12, mG q (nI ((((((((((((((((ln + 1) + 1) + 1) + 1) + 1) + 1) + 1) + 1) + 1) + 1) + 1) + 1) + 1) + 1) + 1) + 1)) i_size i_sort i_what i_at i_end i_worth i_faultKind i_faultPlace i_got i_worked i_deliveries i_isPlanned i_bestDone i_bestCost)), (q 0, .inl (E.2.1 3, 800, .inl f_81))] H := hP
    have hD : va_D A [(h0, .inr (12, mG q (nI ((((((((((((((((ln + 1) + 1) + 1) + 1) + 1) + 1) + 1) + 1) + 1) + 1) + 1) + 1) + 1) + 1) + 1) + 1)) i_size i_sort i_what i_at i_end i_worth i_faultKind i_faultPlace i_got i_worked i_deliveries i_isPlanned i_bestDone i_bestCost)), (q 0, .inl (E.2.1 3, 800, .inl f_81))] := hD
    refine lv_iinc (v := (-8)) (lv' := [(8, .int (-8)), (7, .int a4), (6, .int 3), (0, .ref h0), (1, .int a1), (2, .int a2), (3, .int a3), (4, .int a4), (5, .int a5)]) hx hb dX12_feed_103 hl (k := 0) rfl (by decide) (by decide) rfl (fun ls hl => ?_)
    refine lv_goto (tgt := 73) hx hb dX12_feed_106 (by decide) ?_
    refine lv_iload hx hb dX12_feed_73 (lv_at hl 0 rfl) ?_
    refine lv_if_lt (tgt := 109) hx hb dX12_feed_75 (by decide) (fun _ => ?_) (fun c9 => absurd c9 (by decide))
    refine lv_iinc (v := 4) (lv' := [(6, .int 4), (8, .int (-8)), (7, .int a4), (0, .ref h0), (1, .int a1), (2, .int a2), (3, .int a3), (4, .int a4), (5, .int a5)]) hx hb dX12_feed_109 hl (k := 2) rfl (by decide) (by decide) rfl (fun ls hl => ?_)
    refine lv_goto (tgt := 19) hx hb dX12_feed_112 (by decide) ?_
    refine lv_iload hx hb dX12_feed_19 (lv_at hl 0 rfl) ?_
    refine lv_iconst (v := 5) hx hb dX12_feed_21 (by decide) ?_
    refine lv_icmp_ge (tgt := 115) hx hb dX12_feed_22 (by decide) (fun c9 => absurd c9 (by decide)) (fun _ => ?_)
    refine lv_iload hx hb dX12_feed_25 (lv_at hl 0 rfl) ?_
    refine lv_if_ne (tgt := 34) hx hb dX12_feed_27 (by decide) (fun _ => ?_) (fun c9 => absurd c9 (by decide))
    refine lv_iload hx hb dX12_feed_34 (lv_at hl 0 rfl) ?_
    refine lv_iconst (v := 1) hx hb dX12_feed_36 (by decide) ?_
    refine lv_icmp_ne (tgt := 44) hx hb dX12_feed_37 (by decide) (fun _ => ?_) (fun c9 => absurd c9 (by decide))
    refine lv_iload hx hb dX12_feed_44 (lv_at hl 0 rfl) ?_
    refine lv_iconst (v := 2) hx hb dX12_feed_46 (by decide) ?_
    refine lv_icmp_ne (tgt := 54) hx hb dX12_feed_47 (by decide) (fun _ => ?_) (fun c9 => absurd c9 (by decide))
    refine lv_iload hx hb dX12_feed_54 (lv_at hl 0 rfl) ?_
    refine lv_iconst (v := 3) hx hb dX12_feed_56 (by decide) ?_
    refine lv_icmp_ne (tgt := 65) hx hb dX12_feed_57 (by decide) (fun _ => ?_) (fun c9 => absurd c9 (by decide))
    refine lv_iload hx hb dX12_feed_65 (lv_at hl 8 rfl) ?_
    refine lv_istore (lv' := [(7, .int a5), (6, .int 4), (8, .int (-8)), (0, .ref h0), (1, .int a1), (2, .int a2), (3, .int a3), (4, .int a4), (5, .int a5)]) hx hb dX12_feed_67 hl (by decide) rfl (fun ls hl => ?_)
    refine lv_bipush (v := 24) hx hb dX12_feed_69 (by decide) ?_
    refine lv_istore (lv' := [(8, .int 24), (7, .int a5), (6, .int 4), (0, .ref h0), (1, .int a1), (2, .int a2), (3, .int a3), (4, .int a4), (5, .int a5)]) hx hb dX12_feed_71 hl (by decide) rfl (fun ls hl => ?_)
    refine lv_iload hx hb dX12_feed_73 (lv_at hl 0 rfl) ?_
    refine lv_if_lt (tgt := 109) hx hb dX12_feed_75 (by decide) (fun c9 => absurd c9 (by decide)) (fun _ => ?_)
    refine lv_aload_n hx hb dX12_feed_78 rfl (lv_at hl 3 rfl) ?_
    refine va_get (D := E.1) (ci := 12) (v := .ref (q 0)) (C := RX12) (T := TX12) (N := 59) hx hb hts inX12 hown hK hP 0 rfl rfl 0 (by decide) fl7 (fun _ h9 => h9) rfl dX12_feed_79 ?_
    refine lv_aload_n hx hb dX12_feed_82 rfl (lv_at hl 3 rfl) ?_
    refine va_get (D := E.1) (ci := 12) (v := .int (nI ((((((((((((((((ln + 1) + 1) + 1) + 1) + 1) + 1) + 1) + 1) + 1) + 1) + 1) + 1) + 1) + 1) + 1) + 1))) (C := RX12) (T := TX12) (N := 59) hx hb hts inX12 hown hK hP 0 rfl rfl 1 (by decide) fl152 (fun _ h9 => h9) rfl dX12_feed_83 ?_
    refine lv_iload hx hb dX12_feed_86 (lv_at hl 1 rfl) ?_
    refine lv_iload hx hb dX12_feed_88 (lv_at hl 0 rfl) ?_
    refine lv_ishr hx hb dX12_feed_90 ?_
    refine lv_topi (fun x_83 ex_83 => ?_)
    refine lv_i2b hx hb dX12_feed_91 rfl ?_
    refine lv_topi (fun x_84 ex_84 => ?_)
    have hi_85 : vp_in (nI ((((((((((((((((ln + 1) + 1) + 1) + 1) + 1) + 1) + 1) + 1) + 1) + 1) + 1) + 1) + 1) + 1) + 1) + 1)) 800 := vp_in_nI (by omega) (by decide)
    refine va_bast hx hb hK hP hD hS 1 3 rfl rfl hi_85 dX12_feed_92 (fun H locs hP hD hS => ?_)
    have hP : va_P E.1 vwCl [(h0, .inr (12, mG q (nI ((((((((((((((((ln + 1) + 1) + 1) + 1) + 1) + 1) + 1) + 1) + 1) + 1) + 1) + 1) + 1) + 1) + 1) + 1)) i_size i_sort i_what i_at i_end i_worth i_faultKind i_faultPlace i_got i_worked i_deliveries i_isPlanned i_bestDone i_bestCost)), (q 0, .inl (E.2.1 3, 800, .inl (upd f_81 (nI ((((((((((((((((ln + 1) + 1) + 1) + 1) + 1) + 1) + 1) + 1) + 1) + 1) + 1) + 1) + 1) + 1) + 1) + 1)).toNatClampNeg (vp_nar .byte x_84))))] H := hP
    have hD : va_D A [(h0, .inr (12, mG q (nI ((((((((((((((((ln + 1) + 1) + 1) + 1) + 1) + 1) + 1) + 1) + 1) + 1) + 1) + 1) + 1) + 1) + 1) + 1)) i_size i_sort i_what i_at i_end i_worth i_faultKind i_faultPlace i_got i_worked i_deliveries i_isPlanned i_bestDone i_bestCost)), (q 0, .inl (E.2.1 3, 800, .inl (upd f_81 (nI ((((((((((((((((ln + 1) + 1) + 1) + 1) + 1) + 1) + 1) + 1) + 1) + 1) + 1) + 1) + 1) + 1) + 1) + 1)).toNatClampNeg (vp_nar .byte x_84))))] := hD
    obtain ⟨f_86, ef_86⟩ : ∃ g : Nat → Int32, g = upd f_81 (nI ((((((((((((((((ln + 1) + 1) + 1) + 1) + 1) + 1) + 1) + 1) + 1) + 1) + 1) + 1) + 1) + 1) + 1) + 1)).toNatClampNeg (vp_nar .byte x_84) := ⟨_, rfl⟩
    rw [← ef_86] at hP hD
    refine lv_aload_n hx hb dX12_feed_93 rfl (lv_at hl 3 rfl) ?_
    refine lv_dup hx hb dX12_feed_94 rfl ?_
    refine va_get (D := E.1) (ci := 12) (v := .int (nI ((((((((((((((((ln + 1) + 1) + 1) + 1) + 1) + 1) + 1) + 1) + 1) + 1) + 1) + 1) + 1) + 1) + 1) + 1))) (C := RX12) (T := TX12) (N := 59) hx hb hts inX12 hown hK hP 0 rfl rfl 1 (by decide) fl152 (fun _ h9 => h9) rfl dX12_feed_95 ?_
    refine lv_iconst (v := 1) hx hb dX12_feed_98 (by decide) ?_
    refine lv_iadd hx hb dX12_feed_99 ?_
    refine lv_topi (fun x_87 ex_87 => ?_)
    obtain rfl : x_87 = nI (((((((((((((((((ln + 1) + 1) + 1) + 1) + 1) + 1) + 1) + 1) + 1) + 1) + 1) + 1) + 1) + 1) + 1) + 1) + 1) := ex_87.trans (nI_1 _)
    refine va_put (D := E.1) (ci := 12) (v := .int (nI (((((((((((((((((ln + 1) + 1) + 1) + 1) + 1) + 1) + 1) + 1) + 1) + 1) + 1) + 1) + 1) + 1) + 1) + 1) + 1))) (ty := .int) (C := RX12) (T := TX12) (N := 59) hx hb hts inX12 tyX12 tyX12_ok nmX12 hown hK hP hD hS 0 rfl rfl 1 (by decide) fl152 (fun _ h9 => h9) rfl (by decide +kernel) rfl rfl (Nat.le_of_ble_eq_true rfl) dX12_feed_100 (fun H locs hP hD hS => ?_)
    have hP : va_P E.1 vwCl [(h0, .inr (12, mG q (nI (((((((((((((((((ln + 1) + 1) + 1) + 1) + 1) + 1) + 1) + 1) + 1) + 1) + 1) + 1) + 1) + 1) + 1) + 1) + 1)) i_size i_sort i_what i_at i_end i_worth i_faultKind i_faultPlace i_got i_worked i_deliveries i_isPlanned i_bestDone i_bestCost)), (q 0, .inl (E.2.1 3, 800, .inl f_86))] H := hP
    have hD : va_D A [(h0, .inr (12, mG q (nI (((((((((((((((((ln + 1) + 1) + 1) + 1) + 1) + 1) + 1) + 1) + 1) + 1) + 1) + 1) + 1) + 1) + 1) + 1) + 1)) i_size i_sort i_what i_at i_end i_worth i_faultKind i_faultPlace i_got i_worked i_deliveries i_isPlanned i_bestDone i_bestCost)), (q 0, .inl (E.2.1 3, 800, .inl f_86))] := hD
    refine lv_iinc (v := 16) (lv' := [(8, .int 16), (7, .int a5), (6, .int 4), (0, .ref h0), (1, .int a1), (2, .int a2), (3, .int a3), (4, .int a4), (5, .int a5)]) hx hb dX12_feed_103 hl (k := 0) rfl (by decide) (by decide) rfl (fun ls hl => ?_)
    refine lv_goto (tgt := 73) hx hb dX12_feed_106 (by decide) ?_
    refine lv_iload hx hb dX12_feed_73 (lv_at hl 0 rfl) ?_
    refine lv_if_lt (tgt := 109) hx hb dX12_feed_75 (by decide) (fun c9 => absurd c9 (by decide)) (fun _ => ?_)
    refine lv_aload_n hx hb dX12_feed_78 rfl (lv_at hl 3 rfl) ?_
    refine va_get (D := E.1) (ci := 12) (v := .ref (q 0)) (C := RX12) (T := TX12) (N := 59) hx hb hts inX12 hown hK hP 0 rfl rfl 0 (by decide) fl7 (fun _ h9 => h9) rfl dX12_feed_79 ?_
    refine lv_aload_n hx hb dX12_feed_82 rfl (lv_at hl 3 rfl) ?_
    refine va_get (D := E.1) (ci := 12) (v := .int (nI (((((((((((((((((ln + 1) + 1) + 1) + 1) + 1) + 1) + 1) + 1) + 1) + 1) + 1) + 1) + 1) + 1) + 1) + 1) + 1))) (C := RX12) (T := TX12) (N := 59) hx hb hts inX12 hown hK hP 0 rfl rfl 1 (by decide) fl152 (fun _ h9 => h9) rfl dX12_feed_83 ?_
    refine lv_iload hx hb dX12_feed_86 (lv_at hl 1 rfl) ?_
    refine lv_iload hx hb dX12_feed_88 (lv_at hl 0 rfl) ?_
    refine lv_ishr hx hb dX12_feed_90 ?_
    refine lv_topi (fun x_88 ex_88 => ?_)
    refine lv_i2b hx hb dX12_feed_91 rfl ?_
    refine lv_topi (fun x_89 ex_89 => ?_)
    have hi_90 : vp_in (nI (((((((((((((((((ln + 1) + 1) + 1) + 1) + 1) + 1) + 1) + 1) + 1) + 1) + 1) + 1) + 1) + 1) + 1) + 1) + 1)) 800 := vp_in_nI (by omega) (by decide)
    refine va_bast hx hb hK hP hD hS 1 3 rfl rfl hi_90 dX12_feed_92 (fun H locs hP hD hS => ?_)
    have hP : va_P E.1 vwCl [(h0, .inr (12, mG q (nI (((((((((((((((((ln + 1) + 1) + 1) + 1) + 1) + 1) + 1) + 1) + 1) + 1) + 1) + 1) + 1) + 1) + 1) + 1) + 1)) i_size i_sort i_what i_at i_end i_worth i_faultKind i_faultPlace i_got i_worked i_deliveries i_isPlanned i_bestDone i_bestCost)), (q 0, .inl (E.2.1 3, 800, .inl (upd f_86 (nI (((((((((((((((((ln + 1) + 1) + 1) + 1) + 1) + 1) + 1) + 1) + 1) + 1) + 1) + 1) + 1) + 1) + 1) + 1) + 1)).toNatClampNeg (vp_nar .byte x_89))))] H := hP
    have hD : va_D A [(h0, .inr (12, mG q (nI (((((((((((((((((ln + 1) + 1) + 1) + 1) + 1) + 1) + 1) + 1) + 1) + 1) + 1) + 1) + 1) + 1) + 1) + 1) + 1)) i_size i_sort i_what i_at i_end i_worth i_faultKind i_faultPlace i_got i_worked i_deliveries i_isPlanned i_bestDone i_bestCost)), (q 0, .inl (E.2.1 3, 800, .inl (upd f_86 (nI (((((((((((((((((ln + 1) + 1) + 1) + 1) + 1) + 1) + 1) + 1) + 1) + 1) + 1) + 1) + 1) + 1) + 1) + 1) + 1)).toNatClampNeg (vp_nar .byte x_89))))] := hD
    obtain ⟨f_91, ef_91⟩ : ∃ g : Nat → Int32, g = upd f_86 (nI (((((((((((((((((ln + 1) + 1) + 1) + 1) + 1) + 1) + 1) + 1) + 1) + 1) + 1) + 1) + 1) + 1) + 1) + 1) + 1)).toNatClampNeg (vp_nar .byte x_89) := ⟨_, rfl⟩
    rw [← ef_91] at hP hD
    refine lv_aload_n hx hb dX12_feed_93 rfl (lv_at hl 3 rfl) ?_
    refine lv_dup hx hb dX12_feed_94 rfl ?_
    refine va_get (D := E.1) (ci := 12) (v := .int (nI (((((((((((((((((ln + 1) + 1) + 1) + 1) + 1) + 1) + 1) + 1) + 1) + 1) + 1) + 1) + 1) + 1) + 1) + 1) + 1))) (C := RX12) (T := TX12) (N := 59) hx hb hts inX12 hown hK hP 0 rfl rfl 1 (by decide) fl152 (fun _ h9 => h9) rfl dX12_feed_95 ?_
    refine lv_iconst (v := 1) hx hb dX12_feed_98 (by decide) ?_
    refine lv_iadd hx hb dX12_feed_99 ?_
    refine lv_topi (fun x_92 ex_92 => ?_)
    obtain rfl : x_92 = nI ((((((((((((((((((ln + 1) + 1) + 1) + 1) + 1) + 1) + 1) + 1) + 1) + 1) + 1) + 1) + 1) + 1) + 1) + 1) + 1) + 1) := ex_92.trans (nI_1 _)
    refine va_put (D := E.1) (ci := 12) (v := .int (nI ((((((((((((((((((ln + 1) + 1) + 1) + 1) + 1) + 1) + 1) + 1) + 1) + 1) + 1) + 1) + 1) + 1) + 1) + 1) + 1) + 1))) (ty := .int) (C := RX12) (T := TX12) (N := 59) hx hb hts inX12 tyX12 tyX12_ok nmX12 hown hK hP hD hS 0 rfl rfl 1 (by decide) fl152 (fun _ h9 => h9) rfl (by decide +kernel) rfl rfl (Nat.le_of_ble_eq_true rfl) dX12_feed_100 (fun H locs hP hD hS => ?_)
    have hP : va_P E.1 vwCl [(h0, .inr (12, mG q (nI ((((((((((((((((((ln + 1) + 1) + 1) + 1) + 1) + 1) + 1) + 1) + 1) + 1) + 1) + 1) + 1) + 1) + 1) + 1) + 1) + 1)) i_size i_sort i_what i_at i_end i_worth i_faultKind i_faultPlace i_got i_worked i_deliveries i_isPlanned i_bestDone i_bestCost)), (q 0, .inl (E.2.1 3, 800, .inl f_91))] H := hP
    have hD : va_D A [(h0, .inr (12, mG q (nI ((((((((((((((((((ln + 1) + 1) + 1) + 1) + 1) + 1) + 1) + 1) + 1) + 1) + 1) + 1) + 1) + 1) + 1) + 1) + 1) + 1)) i_size i_sort i_what i_at i_end i_worth i_faultKind i_faultPlace i_got i_worked i_deliveries i_isPlanned i_bestDone i_bestCost)), (q 0, .inl (E.2.1 3, 800, .inl f_91))] := hD
    refine lv_iinc (v := 8) (lv' := [(8, .int 8), (7, .int a5), (6, .int 4), (0, .ref h0), (1, .int a1), (2, .int a2), (3, .int a3), (4, .int a4), (5, .int a5)]) hx hb dX12_feed_103 hl (k := 0) rfl (by decide) (by decide) rfl (fun ls hl => ?_)
    refine lv_goto (tgt := 73) hx hb dX12_feed_106 (by decide) ?_
    refine lv_iload hx hb dX12_feed_73 (lv_at hl 0 rfl) ?_
    refine lv_if_lt (tgt := 109) hx hb dX12_feed_75 (by decide) (fun c9 => absurd c9 (by decide)) (fun _ => ?_)
    refine lv_aload_n hx hb dX12_feed_78 rfl (lv_at hl 3 rfl) ?_
    refine va_get (D := E.1) (ci := 12) (v := .ref (q 0)) (C := RX12) (T := TX12) (N := 59) hx hb hts inX12 hown hK hP 0 rfl rfl 0 (by decide) fl7 (fun _ h9 => h9) rfl dX12_feed_79 ?_
    refine lv_aload_n hx hb dX12_feed_82 rfl (lv_at hl 3 rfl) ?_
    refine va_get (D := E.1) (ci := 12) (v := .int (nI ((((((((((((((((((ln + 1) + 1) + 1) + 1) + 1) + 1) + 1) + 1) + 1) + 1) + 1) + 1) + 1) + 1) + 1) + 1) + 1) + 1))) (C := RX12) (T := TX12) (N := 59) hx hb hts inX12 hown hK hP 0 rfl rfl 1 (by decide) fl152 (fun _ h9 => h9) rfl dX12_feed_83 ?_
    refine lv_iload hx hb dX12_feed_86 (lv_at hl 1 rfl) ?_
    refine lv_iload hx hb dX12_feed_88 (lv_at hl 0 rfl) ?_
    refine lv_ishr hx hb dX12_feed_90 ?_
    refine lv_topi (fun x_93 ex_93 => ?_)
    refine lv_i2b hx hb dX12_feed_91 rfl ?_
    refine lv_topi (fun x_94 ex_94 => ?_)
    have hi_95 : vp_in (nI ((((((((((((((((((ln + 1) + 1) + 1) + 1) + 1) + 1) + 1) + 1) + 1) + 1) + 1) + 1) + 1) + 1) + 1) + 1) + 1) + 1)) 800 := vp_in_nI (by omega) (by decide)
    refine va_bast hx hb hK hP hD hS 1 3 rfl rfl hi_95 dX12_feed_92 (fun H locs hP hD hS => ?_)
    have hP : va_P E.1 vwCl [(h0, .inr (12, mG q (nI ((((((((((((((((((ln + 1) + 1) + 1) + 1) + 1) + 1) + 1) + 1) + 1) + 1) + 1) + 1) + 1) + 1) + 1) + 1) + 1) + 1)) i_size i_sort i_what i_at i_end i_worth i_faultKind i_faultPlace i_got i_worked i_deliveries i_isPlanned i_bestDone i_bestCost)), (q 0, .inl (E.2.1 3, 800, .inl (upd f_91 (nI ((((((((((((((((((ln + 1) + 1) + 1) + 1) + 1) + 1) + 1) + 1) + 1) + 1) + 1) + 1) + 1) + 1) + 1) + 1) + 1) + 1)).toNatClampNeg (vp_nar .byte x_94))))] H := hP
    have hD : va_D A [(h0, .inr (12, mG q (nI ((((((((((((((((((ln + 1) + 1) + 1) + 1) + 1) + 1) + 1) + 1) + 1) + 1) + 1) + 1) + 1) + 1) + 1) + 1) + 1) + 1)) i_size i_sort i_what i_at i_end i_worth i_faultKind i_faultPlace i_got i_worked i_deliveries i_isPlanned i_bestDone i_bestCost)), (q 0, .inl (E.2.1 3, 800, .inl (upd f_91 (nI ((((((((((((((((((ln + 1) + 1) + 1) + 1) + 1) + 1) + 1) + 1) + 1) + 1) + 1) + 1) + 1) + 1) + 1) + 1) + 1) + 1)).toNatClampNeg (vp_nar .byte x_94))))] := hD
    obtain ⟨f_96, ef_96⟩ : ∃ g : Nat → Int32, g = upd f_91 (nI ((((((((((((((((((ln + 1) + 1) + 1) + 1) + 1) + 1) + 1) + 1) + 1) + 1) + 1) + 1) + 1) + 1) + 1) + 1) + 1) + 1)).toNatClampNeg (vp_nar .byte x_94) := ⟨_, rfl⟩
    rw [← ef_96] at hP hD
    refine lv_aload_n hx hb dX12_feed_93 rfl (lv_at hl 3 rfl) ?_
    refine lv_dup hx hb dX12_feed_94 rfl ?_
    refine va_get (D := E.1) (ci := 12) (v := .int (nI ((((((((((((((((((ln + 1) + 1) + 1) + 1) + 1) + 1) + 1) + 1) + 1) + 1) + 1) + 1) + 1) + 1) + 1) + 1) + 1) + 1))) (C := RX12) (T := TX12) (N := 59) hx hb hts inX12 hown hK hP 0 rfl rfl 1 (by decide) fl152 (fun _ h9 => h9) rfl dX12_feed_95 ?_
    refine lv_iconst (v := 1) hx hb dX12_feed_98 (by decide) ?_
    refine lv_iadd hx hb dX12_feed_99 ?_
    refine lv_topi (fun x_97 ex_97 => ?_)
    obtain rfl : x_97 = nI (((((((((((((((((((ln + 1) + 1) + 1) + 1) + 1) + 1) + 1) + 1) + 1) + 1) + 1) + 1) + 1) + 1) + 1) + 1) + 1) + 1) + 1) := ex_97.trans (nI_1 _)
    refine va_put (D := E.1) (ci := 12) (v := .int (nI (((((((((((((((((((ln + 1) + 1) + 1) + 1) + 1) + 1) + 1) + 1) + 1) + 1) + 1) + 1) + 1) + 1) + 1) + 1) + 1) + 1) + 1))) (ty := .int) (C := RX12) (T := TX12) (N := 59) hx hb hts inX12 tyX12 tyX12_ok nmX12 hown hK hP hD hS 0 rfl rfl 1 (by decide) fl152 (fun _ h9 => h9) rfl (by decide +kernel) rfl rfl (Nat.le_of_ble_eq_true rfl) dX12_feed_100 (fun H locs hP hD hS => ?_)
    have hP : va_P E.1 vwCl [(h0, .inr (12, mG q (nI (((((((((((((((((((ln + 1) + 1) + 1) + 1) + 1) + 1) + 1) + 1) + 1) + 1) + 1) + 1) + 1) + 1) + 1) + 1) + 1) + 1) + 1)) i_size i_sort i_what i_at i_end i_worth i_faultKind i_faultPlace i_got i_worked i_deliveries i_isPlanned i_bestDone i_bestCost)), (q 0, .inl (E.2.1 3, 800, .inl f_96))] H := hP
    have hD : va_D A [(h0, .inr (12, mG q (nI (((((((((((((((((((ln + 1) + 1) + 1) + 1) + 1) + 1) + 1) + 1) + 1) + 1) + 1) + 1) + 1) + 1) + 1) + 1) + 1) + 1) + 1)) i_size i_sort i_what i_at i_end i_worth i_faultKind i_faultPlace i_got i_worked i_deliveries i_isPlanned i_bestDone i_bestCost)), (q 0, .inl (E.2.1 3, 800, .inl f_96))] := hD
    refine lv_iinc (v := 0) (lv' := [(8, .int 0), (7, .int a5), (6, .int 4), (0, .ref h0), (1, .int a1), (2, .int a2), (3, .int a3), (4, .int a4), (5, .int a5)]) hx hb dX12_feed_103 hl (k := 0) rfl (by decide) (by decide) rfl (fun ls hl => ?_)
    refine lv_goto (tgt := 73) hx hb dX12_feed_106 (by decide) ?_
    refine lv_iload hx hb dX12_feed_73 (lv_at hl 0 rfl) ?_
    refine lv_if_lt (tgt := 109) hx hb dX12_feed_75 (by decide) (fun c9 => absurd c9 (by decide)) (fun _ => ?_)
    refine lv_aload_n hx hb dX12_feed_78 rfl (lv_at hl 3 rfl) ?_
    refine va_get (D := E.1) (ci := 12) (v := .ref (q 0)) (C := RX12) (T := TX12) (N := 59) hx hb hts inX12 hown hK hP 0 rfl rfl 0 (by decide) fl7 (fun _ h9 => h9) rfl dX12_feed_79 ?_
    refine lv_aload_n hx hb dX12_feed_82 rfl (lv_at hl 3 rfl) ?_
    refine va_get (D := E.1) (ci := 12) (v := .int (nI (((((((((((((((((((ln + 1) + 1) + 1) + 1) + 1) + 1) + 1) + 1) + 1) + 1) + 1) + 1) + 1) + 1) + 1) + 1) + 1) + 1) + 1))) (C := RX12) (T := TX12) (N := 59) hx hb hts inX12 hown hK hP 0 rfl rfl 1 (by decide) fl152 (fun _ h9 => h9) rfl dX12_feed_83 ?_
    refine lv_iload hx hb dX12_feed_86 (lv_at hl 1 rfl) ?_
    refine lv_iload hx hb dX12_feed_88 (lv_at hl 0 rfl) ?_
    refine lv_ishr hx hb dX12_feed_90 ?_
    refine lv_topi (fun x_98 ex_98 => ?_)
    refine lv_i2b hx hb dX12_feed_91 rfl ?_
    refine lv_topi (fun x_99 ex_99 => ?_)
    have hi_100 : vp_in (nI (((((((((((((((((((ln + 1) + 1) + 1) + 1) + 1) + 1) + 1) + 1) + 1) + 1) + 1) + 1) + 1) + 1) + 1) + 1) + 1) + 1) + 1)) 800 := vp_in_nI (by omega) (by decide)
    refine va_bast hx hb hK hP hD hS 1 3 rfl rfl hi_100 dX12_feed_92 (fun H locs hP hD hS => ?_)
    have hP : va_P E.1 vwCl [(h0, .inr (12, mG q (nI (((((((((((((((((((ln + 1) + 1) + 1) + 1) + 1) + 1) + 1) + 1) + 1) + 1) + 1) + 1) + 1) + 1) + 1) + 1) + 1) + 1) + 1)) i_size i_sort i_what i_at i_end i_worth i_faultKind i_faultPlace i_got i_worked i_deliveries i_isPlanned i_bestDone i_bestCost)), (q 0, .inl (E.2.1 3, 800, .inl (upd f_96 (nI (((((((((((((((((((ln + 1) + 1) + 1) + 1) + 1) + 1) + 1) + 1) + 1) + 1) + 1) + 1) + 1) + 1) + 1) + 1) + 1) + 1) + 1)).toNatClampNeg (vp_nar .byte x_99))))] H := hP
    have hD : va_D A [(h0, .inr (12, mG q (nI (((((((((((((((((((ln + 1) + 1) + 1) + 1) + 1) + 1) + 1) + 1) + 1) + 1) + 1) + 1) + 1) + 1) + 1) + 1) + 1) + 1) + 1)) i_size i_sort i_what i_at i_end i_worth i_faultKind i_faultPlace i_got i_worked i_deliveries i_isPlanned i_bestDone i_bestCost)), (q 0, .inl (E.2.1 3, 800, .inl (upd f_96 (nI (((((((((((((((((((ln + 1) + 1) + 1) + 1) + 1) + 1) + 1) + 1) + 1) + 1) + 1) + 1) + 1) + 1) + 1) + 1) + 1) + 1) + 1)).toNatClampNeg (vp_nar .byte x_99))))] := hD
    obtain ⟨f_101, ef_101⟩ : ∃ g : Nat → Int32, g = upd f_96 (nI (((((((((((((((((((ln + 1) + 1) + 1) + 1) + 1) + 1) + 1) + 1) + 1) + 1) + 1) + 1) + 1) + 1) + 1) + 1) + 1) + 1) + 1)).toNatClampNeg (vp_nar .byte x_99) := ⟨_, rfl⟩
    rw [← ef_101] at hP hD
    refine lv_aload_n hx hb dX12_feed_93 rfl (lv_at hl 3 rfl) ?_
    refine lv_dup hx hb dX12_feed_94 rfl ?_
    refine va_get (D := E.1) (ci := 12) (v := .int (nI (((((((((((((((((((ln + 1) + 1) + 1) + 1) + 1) + 1) + 1) + 1) + 1) + 1) + 1) + 1) + 1) + 1) + 1) + 1) + 1) + 1) + 1))) (C := RX12) (T := TX12) (N := 59) hx hb hts inX12 hown hK hP 0 rfl rfl 1 (by decide) fl152 (fun _ h9 => h9) rfl dX12_feed_95 ?_
    refine lv_iconst (v := 1) hx hb dX12_feed_98 (by decide) ?_
    refine lv_iadd hx hb dX12_feed_99 ?_
    refine lv_topi (fun x_102 ex_102 => ?_)
    obtain rfl : x_102 = nI ((((((((((((((((((((ln + 1) + 1) + 1) + 1) + 1) + 1) + 1) + 1) + 1) + 1) + 1) + 1) + 1) + 1) + 1) + 1) + 1) + 1) + 1) + 1) := ex_102.trans (nI_1 _)
    refine va_put (D := E.1) (ci := 12) (v := .int (nI ((((((((((((((((((((ln + 1) + 1) + 1) + 1) + 1) + 1) + 1) + 1) + 1) + 1) + 1) + 1) + 1) + 1) + 1) + 1) + 1) + 1) + 1) + 1))) (ty := .int) (C := RX12) (T := TX12) (N := 59) hx hb hts inX12 tyX12 tyX12_ok nmX12 hown hK hP hD hS 0 rfl rfl 1 (by decide) fl152 (fun _ h9 => h9) rfl (by decide +kernel) rfl rfl (Nat.le_of_ble_eq_true rfl) dX12_feed_100 (fun H locs hP hD hS => ?_)
    have hP : va_P E.1 vwCl [(h0, .inr (12, mG q (nI ((((((((((((((((((((ln + 1) + 1) + 1) + 1) + 1) + 1) + 1) + 1) + 1) + 1) + 1) + 1) + 1) + 1) + 1) + 1) + 1) + 1) + 1) + 1)) i_size i_sort i_what i_at i_end i_worth i_faultKind i_faultPlace i_got i_worked i_deliveries i_isPlanned i_bestDone i_bestCost)), (q 0, .inl (E.2.1 3, 800, .inl f_101))] H := hP
    have hD : va_D A [(h0, .inr (12, mG q (nI ((((((((((((((((((((ln + 1) + 1) + 1) + 1) + 1) + 1) + 1) + 1) + 1) + 1) + 1) + 1) + 1) + 1) + 1) + 1) + 1) + 1) + 1) + 1)) i_size i_sort i_what i_at i_end i_worth i_faultKind i_faultPlace i_got i_worked i_deliveries i_isPlanned i_bestDone i_bestCost)), (q 0, .inl (E.2.1 3, 800, .inl f_101))] := hD
    refine lv_iinc (v := (-8)) (lv' := [(8, .int (-8)), (7, .int a5), (6, .int 4), (0, .ref h0), (1, .int a1), (2, .int a2), (3, .int a3), (4, .int a4), (5, .int a5)]) hx hb dX12_feed_103 hl (k := 0) rfl (by decide) (by decide) rfl (fun ls hl => ?_)
    refine lv_goto (tgt := 73) hx hb dX12_feed_106 (by decide) ?_
    refine lv_iload hx hb dX12_feed_73 (lv_at hl 0 rfl) ?_
    refine lv_if_lt (tgt := 109) hx hb dX12_feed_75 (by decide) (fun _ => ?_) (fun c9 => absurd c9 (by decide))
    refine lv_iinc (v := 5) (lv' := [(6, .int 5), (8, .int (-8)), (7, .int a5), (0, .ref h0), (1, .int a1), (2, .int a2), (3, .int a3), (4, .int a4), (5, .int a5)]) hx hb dX12_feed_109 hl (k := 2) rfl (by decide) (by decide) rfl (fun ls hl => ?_)
    refine lv_goto (tgt := 19) hx hb dX12_feed_112 (by decide) ?_
    refine lv_iload hx hb dX12_feed_19 (lv_at hl 0 rfl) ?_
    refine lv_iconst (v := 5) hx hb dX12_feed_21 (by decide) ?_
    refine lv_icmp_ge (tgt := 115) hx hb dX12_feed_22 (by decide) (fun _ => ?_) (fun c9 => absurd c9 (by decide))
    refine lv_aload_n hx hb dX12_feed_115 rfl (lv_at hl 3 rfl) ?_
    refine va_get (D := E.1) (ci := 12) (v := .int (nI ((((((((((((((((((((ln + 1) + 1) + 1) + 1) + 1) + 1) + 1) + 1) + 1) + 1) + 1) + 1) + 1) + 1) + 1) + 1) + 1) + 1) + 1) + 1))) (C := RX12) (T := TX12) (N := 59) hx hb hts inX12 hown hK hP 0 rfl rfl 1 (by decide) fl152 (fun _ h9 => h9) rfl dX12_feed_116 ?_
    have hP9 := hP.sub (ws' := [(h0, .inr (12, mG q (nI ((((((((((((((((((((ln + 1) + 1) + 1) + 1) + 1) + 1) + 1) + 1) + 1) + 1) + 1) + 1) + 1) + 1) + 1) + 1) + 1) + 1) + 1) + 1)) i_size i_sort i_what i_at i_end i_worth i_faultKind i_faultPlace i_got i_worked i_deliveries i_isPlanned i_bestDone i_bestCost)), (q 0, .inl (E.2.1 3, 800, .inl f_101))]) [0, 1] rfl
    have hD9 := hD.sub (ws' := [(h0, .inr (12, mG q (nI ((((((((((((((((((((ln + 1) + 1) + 1) + 1) + 1) + 1) + 1) + 1) + 1) + 1) + 1) + 1) + 1) + 1) + 1) + 1) + 1) + 1) + 1) + 1)) i_size i_sort i_what i_at i_end i_worth i_faultKind i_faultPlace i_got i_worked i_deliveries i_isPlanned i_bestDone i_bestCost)), (q 0, .inl (E.2.1 3, 800, .inl f_101))]) [0, 1] (by decide) rfl
    exact W.iret (v := (nI ((((((((((((((((((((ln + 1) + 1) + 1) + 1) + 1) + 1) + 1) + 1) + 1) + 1) + 1) + 1) + 1) + 1) + 1) + 1) + 1) + 1) + 1) + 1))) hx hb hr (fun t ht hW => ⟨⟨(nI ((((((((((((((((((((ln + 1) + 1) + 1) + 1) + 1) + 1) + 1) + 1) + 1) + 1) + 1) + 1) + 1) + 1) + 1) + 1) + 1) + 1) + 1) + 1)), (((((((((((((((((((((ln + 1) + 1) + 1) + 1) + 1) + 1) + 1) + 1) + 1) + 1) + 1) + 1) + 1) + 1) + 1) + 1) + 1) + 1) + 1) + 1), f_101), rfl, trivial, (by omega), by rw [ht]; exact hP9, hD9⟩, hS.F ht⟩) hS.2.2 dX12_feed_119
  · refine lv_bipush (v := (-3)) hx hb dX12_feed_13 (by decide) ?_
    have hP9 := hP.sub (ws' := [(h0, .inr (12, mG q (nI ln) i_size i_sort i_what i_at i_end i_worth i_faultKind i_faultPlace i_got i_worked i_deliveries i_isPlanned i_bestDone i_bestCost)), (q 0, .inl (E.2.1 3, 800, .inl a_tape))]) [0, 1] rfl
    have hD9 := hD.sub (ws' := [(h0, .inr (12, mG q (nI ln) i_size i_sort i_what i_at i_end i_worth i_faultKind i_faultPlace i_got i_worked i_deliveries i_isPlanned i_bestDone i_bestCost)), (q 0, .inl (E.2.1 3, 800, .inl a_tape))]) [0, 1] (by decide) rfl
    exact W.iret (v := (-3)) hx hb hr (fun t ht hW => ⟨⟨(-3), (ln, a_tape), rfl, trivial, (by omega), by rw [ht]; exact hP9, hD9⟩, hS.F ht⟩) hS.2.2 dX12_feed_15
set_option maxHeartbeats 4000000 in
set_option maxRecDepth 100000 in
theorem c_X12_end (l : Launch) (E : vE) (h0 : Nat) (q : Nat → Nat) (i_size : Int32) (i_sort : Int32) (i_what : Int32) (i_at : Int32) (i_end : Int32) (i_worth : Int32) (i_faultKind : Int32) (i_faultPlace : Int32) (i_got : Int32) (i_worked : Int32) (i_deliveries : Int32) (i_isPlanned : Int32) (i_bestDone : Int32) (i_bestCost : Int32) (ln : Nat) (n : Int32) (sz : Nat) (hln : ln ≤ 800) : Met l yX12_end wsX12_end ({ frames := 0, cells := 0, slots := 0, locals := 0 }) (pcW E [.ref h0, .int n] sz [(h0, .inr (12, mG q (nI ln) i_size i_sort i_what i_at i_end i_worth i_faultKind i_faultPlace i_got i_worked i_deliveries i_isPlanned i_bestDone i_bestCost))]) (va_Qi (fun (r : Int32) (ln2 : Nat) => True) (fun (ln2 : Nat) (t : State) => (ln2 ≤ 800) ∧ wB E (va_A [(h0, .inr (12, mG q (nI ln) i_size i_sort i_what i_at i_end i_worth i_faultKind i_faultPlace i_got i_worked i_deliveries i_isPlanned i_bestDone i_bestCost))] sz) [(h0, .inr (12, mG q (nI ln2) i_size i_sort i_what i_at i_end i_worth i_faultKind i_faultPlace i_got i_worked i_deliveries i_isPlanned i_bestDone i_bestCost))] t) (va_A [(h0, .inr (12, mG q (nI ln) i_size i_sort i_what i_at i_end i_worth i_faultKind i_faultPlace i_got i_worked i_deliveries i_isPlanned i_bestDone i_bestCost))] sz)) 0 0 (va_A [(h0, .inr (12, mG q (nI ln) i_size i_sort i_what i_at i_end i_worth i_faultKind i_faultPlace i_got i_worked i_deliveries i_isPlanned i_bestDone i_bestCost))] sz) := by
  refine Met.ofW (cc := cX12_end) (maxL := 2) (ret := (some .int)) (by decide) rfl ?_
  intro p e s m args below meth c s₁ B hml hv
  obtain ⟨rfl, hsz, hP, hkn, hD0, hst⟩ := hv
  have hx := B.exec
  have hb := B.bytes
  have hr := B.returns
  have hts := atoms_spec (ws := wsX12_end) B.pre
  have hown : s.vm.findClass RX12 = some m.cls := findClass_of_methodNamed B.named
  have hlocks := B.notSynchronized
  subst hsz
  have hD := hD0.self (sz := s.heap.size)
  have hK := hkn.1
  have hAO := hkn.2.2.1
  generalize hAe : va_A [(h0, .inr (12, mG q (nI ln) i_size i_sort i_what i_at i_end i_worth i_faultKind i_faultPlace i_got i_worked i_deliveries i_isPlanned i_bestDone i_bestCost))] s.heap.size = A at hD hst ⊢
  have hA : ∀ q : Nat, s.heap.size ≤ q → A q := fun q h => by rw [← hAe]; exact Or.inr h
  have hS : va_S A s.heap s.heap [] := va_S.rf
  have hP : va_P E.1 vwCl [(h0, .inr (12, mG q (nI ln) i_size i_sort i_what i_at i_end i_worth i_faultKind i_faultPlace i_got i_worked i_deliveries i_isPlanned i_bestDone i_bestCost))] s.heap := hP
  have hl := lv_entry ([.ref h0, .int n]) (n := 2) (Nat.le_of_ble_eq_true rfl)
  rw [lg_entry_eq]
  generalize (lg_sl ([.ref h0, .int n]) ++ List.replicate (2 - (lg_sl ([.ref h0, .int n])).length) Slot.unset).toArray = ls at hl ⊢
  have hl : lv_has ls 2 [(0, .ref h0), (1, .int n)] := hl
  have fl152 := hts (.fieldLink RX12 152 "BoatsHomeModel" "taped" "I") (by first | exact List.mem_of_getElem? (i := 1) rfl | decide +kernel)
  have inX12 : ∀ w ∈ u_ws RX12 TX12 59, w ∈ wsX12_end := by first | exact fun w h9 => (List.mem_cons_of_mem _ (List.mem_append_right _ h9)) | decide +kernel
  refine lv_iload_n hx hb dX12_end_0 rfl (lv_at hl 1 rfl) ?_
  refine lv_if_lt (tgt := 12) hx hb dX12_end_1 (by decide) (fun c_1 => ?_) (fun c_1 => ?_)
  · refine lv_iconst (v := (-1)) hx hb dX12_end_12 (by decide) ?_
    have hP9 := hP.sub (ws' := [(h0, .inr (12, mG q (nI ln) i_size i_sort i_what i_at i_end i_worth i_faultKind i_faultPlace i_got i_worked i_deliveries i_isPlanned i_bestDone i_bestCost))]) [0] rfl
    have hD9 := hD.sub (ws' := [(h0, .inr (12, mG q (nI ln) i_size i_sort i_what i_at i_end i_worth i_faultKind i_faultPlace i_got i_worked i_deliveries i_isPlanned i_bestDone i_bestCost))]) [0] (by decide) rfl
    exact W.iret (v := (-1)) hx hb hr (fun t ht hW => ⟨⟨(-1), ln, rfl, trivial, (by omega), by rw [ht]; exact hP9, hD9⟩, hS.F ht⟩) hS.2.2 dX12_end_13
  · refine lv_iload_n hx hb dX12_end_4 rfl (lv_at hl 1 rfl) ?_
    refine lv_aload_n hx hb dX12_end_5 rfl (lv_at hl 0 rfl) ?_
    refine va_get (D := E.1) (ci := 12) (v := .int (nI ln)) (C := RX12) (T := TX12) (N := 59) hx hb hts inX12 hown hK hP 0 rfl rfl 1 (by decide) fl152 (fun _ h9 => h9) rfl dX12_end_6 ?_
    refine lv_icmp_le (tgt := 14) hx hb dX12_end_9 (by decide) (fun c_2 => ?_) (fun c_2 => ?_)
    · obtain ⟨j_n, hj_n, ej_n⟩ := nI_of2 (n := ln) (nI_toInt (by omega)) c_1 c_2
      subst ej_n
      refine lv_aload_n hx hb dX12_end_14 rfl (lv_at hl 0 rfl) ?_
      refine lv_iload_n hx hb dX12_end_15 rfl (lv_at hl 1 rfl) ?_
      refine va_put (D := E.1) (ci := 12) (v := .int (nI j_n)) (ty := .int) (C := RX12) (T := TX12) (N := 59) hx hb hts inX12 tyX12 tyX12_ok nmX12 hown hK hP hD hS 0 rfl rfl 1 (by decide) fl152 (fun _ h9 => h9) rfl (by decide +kernel) rfl rfl (Nat.le_of_ble_eq_true rfl) dX12_end_16 (fun H locs hP hD hS => ?_)
      have hP : va_P E.1 vwCl [(h0, .inr (12, mG q (nI j_n) i_size i_sort i_what i_at i_end i_worth i_faultKind i_faultPlace i_got i_worked i_deliveries i_isPlanned i_bestDone i_bestCost))] H := hP
      have hD : va_D A [(h0, .inr (12, mG q (nI j_n) i_size i_sort i_what i_at i_end i_worth i_faultKind i_faultPlace i_got i_worked i_deliveries i_isPlanned i_bestDone i_bestCost))] := hD
      refine lv_iload_n hx hb dX12_end_19 rfl (lv_at hl 1 rfl) ?_
      have hP9 := hP.sub (ws' := [(h0, .inr (12, mG q (nI j_n) i_size i_sort i_what i_at i_end i_worth i_faultKind i_faultPlace i_got i_worked i_deliveries i_isPlanned i_bestDone i_bestCost))]) [0] rfl
      have hD9 := hD.sub (ws' := [(h0, .inr (12, mG q (nI j_n) i_size i_sort i_what i_at i_end i_worth i_faultKind i_faultPlace i_got i_worked i_deliveries i_isPlanned i_bestDone i_bestCost))]) [0] (by decide) rfl
      exact W.iret (v := (nI j_n)) hx hb hr (fun t ht hW => ⟨⟨(nI j_n), j_n, rfl, trivial, (by omega), by rw [ht]; exact hP9, hD9⟩, hS.F ht⟩) hS.2.2 dX12_end_20
    · refine lv_iconst (v := (-1)) hx hb dX12_end_12 (by decide) ?_
      have hP9 := hP.sub (ws' := [(h0, .inr (12, mG q (nI ln) i_size i_sort i_what i_at i_end i_worth i_faultKind i_faultPlace i_got i_worked i_deliveries i_isPlanned i_bestDone i_bestCost))]) [0] rfl
      have hD9 := hD.sub (ws' := [(h0, .inr (12, mG q (nI ln) i_size i_sort i_what i_at i_end i_worth i_faultKind i_faultPlace i_got i_worked i_deliveries i_isPlanned i_bestDone i_bestCost))]) [0] (by decide) rfl
      exact W.iret (v := (-1)) hx hb hr (fun t ht hW => ⟨⟨(-1), ln, rfl, trivial, (by omega), by rw [ht]; exact hP9, hD9⟩, hS.F ht⟩) hS.2.2 dX12_end_13
set_option maxHeartbeats 4000000 in
set_option maxRecDepth 100000 in
theorem c_X12_fault (l : Launch) (E : vE) (h0 : Nat) (q : Nat → Nat) (i_taped : Int32) (i_size : Int32) (i_sort : Int32) (i_what : Int32) (i_at : Int32) (i_end : Int32) (i_worth : Int32) (i_faultKind : Int32) (i_faultPlace : Int32) (i_got : Int32) (i_worked : Int32) (i_deliveries : Int32) (i_isPlanned : Int32) (i_bestDone : Int32) (i_bestCost : Int32) (what : Int32) (sz : Nat) : Met l yX12_fault wsX12_fault ({ frames := 0, cells := 0, slots := 0, locals := 0 }) (pcW E [.ref h0, .int what] sz [(h0, .inr (12, mG q i_taped i_size i_sort i_what i_at i_end i_worth i_faultKind i_faultPlace i_got i_worked i_deliveries i_isPlanned i_bestDone i_bestCost))]) (va_Qi (fun (r : Int32) (_ : Unit) => True) (fun (_ : Unit) (t : State) => wB E (va_A [(h0, .inr (12, mG q i_taped i_size i_sort i_what i_at i_end i_worth i_faultKind i_faultPlace i_got i_worked i_deliveries i_isPlanned i_bestDone i_bestCost))] sz) [(h0, .inr (12, mG q i_taped i_size i_sort i_what i_at i_end i_worth i_faultKind i_faultPlace i_got i_worked i_deliveries i_isPlanned i_bestDone i_bestCost))] t) (va_A [(h0, .inr (12, mG q i_taped i_size i_sort i_what i_at i_end i_worth i_faultKind i_faultPlace i_got i_worked i_deliveries i_isPlanned i_bestDone i_bestCost))] sz)) 0 0 (va_A [(h0, .inr (12, mG q i_taped i_size i_sort i_what i_at i_end i_worth i_faultKind i_faultPlace i_got i_worked i_deliveries i_isPlanned i_bestDone i_bestCost))] sz) := by
  refine Met.ofW (cc := cX12_fault) (maxL := 2) (ret := (some .int)) (by decide) rfl ?_
  intro p e s m args below meth c s₁ B hml hv
  obtain ⟨rfl, hsz, hP, hkn, hD0, hst⟩ := hv
  have hx := B.exec
  have hb := B.bytes
  have hr := B.returns
  have hts := atoms_spec (ws := wsX12_fault) B.pre
  have hown : s.vm.findClass RX12 = some m.cls := findClass_of_methodNamed B.named
  have hlocks := B.notSynchronized
  subst hsz
  have hD := hD0.self (sz := s.heap.size)
  have hK := hkn.1
  have hAO := hkn.2.2.1
  generalize hAe : va_A [(h0, .inr (12, mG q i_taped i_size i_sort i_what i_at i_end i_worth i_faultKind i_faultPlace i_got i_worked i_deliveries i_isPlanned i_bestDone i_bestCost))] s.heap.size = A at hD hst ⊢
  have hA : ∀ q : Nat, s.heap.size ≤ q → A q := fun q h => by rw [← hAe]; exact Or.inr h
  have hS : va_S A s.heap s.heap [] := va_S.rf
  have hP : va_P E.1 vwCl [(h0, .inr (12, mG q i_taped i_size i_sort i_what i_at i_end i_worth i_faultKind i_faultPlace i_got i_worked i_deliveries i_isPlanned i_bestDone i_bestCost))] s.heap := hP
  have hl := lv_entry ([.ref h0, .int what]) (n := 2) (Nat.le_of_ble_eq_true rfl)
  rw [lg_entry_eq]
  generalize (lg_sl ([.ref h0, .int what]) ++ List.replicate (2 - (lg_sl ([.ref h0, .int what])).length) Slot.unset).toArray = ls at hl ⊢
  have hl : lv_has ls 2 [(0, .ref h0), (1, .int what)] := hl
  have fl13 := hts (.fieldLink RX12 13 "BoatsHomeModel" "faultPlace" "I") (by first | exact List.mem_of_getElem? (i := 2) rfl | decide +kernel)
  have fl200 := hts (.fieldLink RX12 200 "BoatsHomeModel" "faultKind" "I") (by first | exact List.mem_of_getElem? (i := 1) rfl | decide +kernel)
  have inX12 : ∀ w ∈ u_ws RX12 TX12 59, w ∈ wsX12_fault := by first | exact fun w h9 => (List.mem_cons_of_mem _ (List.mem_append_right _ h9)) | decide +kernel
  refine lv_iload_n hx hb dX12_fault_0 rfl (lv_at hl 1 rfl) ?_
  refine lv_if_ne (tgt := 11) hx hb dX12_fault_1 (by decide) (fun c_1 => ?_) (fun c_1 => ?_)
  · refine lv_iload_n hx hb dX12_fault_11 rfl (lv_at hl 1 rfl) ?_
    refine lv_iconst (v := 1) hx hb dX12_fault_12 (by decide) ?_
    refine lv_icmp_ne (tgt := 23) hx hb dX12_fault_13 (by decide) (fun c_2 => ?_) (fun c_2 => ?_)
    · refine lv_iconst (v := (-1)) hx hb dX12_fault_23 (by decide) ?_
      have hP9 := hP.sub (ws' := [(h0, .inr (12, mG q i_taped i_size i_sort i_what i_at i_end i_worth i_faultKind i_faultPlace i_got i_worked i_deliveries i_isPlanned i_bestDone i_bestCost))]) [0] rfl
      have hD9 := hD.sub (ws' := [(h0, .inr (12, mG q i_taped i_size i_sort i_what i_at i_end i_worth i_faultKind i_faultPlace i_got i_worked i_deliveries i_isPlanned i_bestDone i_bestCost))]) [0] (by decide) rfl
      exact W.iret (v := (-1)) hx hb hr (fun t ht hW => ⟨⟨(-1), (), rfl, trivial, by rw [ht]; exact hP9, hD9⟩, hS.F ht⟩) hS.2.2 dX12_fault_24
    · refine lv_aload_n hx hb dX12_fault_16 rfl (lv_at hl 0 rfl) ?_
      refine va_get (D := E.1) (ci := 12) (v := .int i_faultPlace) (C := RX12) (T := TX12) (N := 59) hx hb hts inX12 hown hK hP 0 rfl rfl 9 (by decide) fl13 (fun _ h9 => h9) rfl dX12_fault_17 ?_
      refine lv_goto (tgt := 24) hx hb dX12_fault_20 (by decide) ?_
      have hP9 := hP.sub (ws' := [(h0, .inr (12, mG q i_taped i_size i_sort i_what i_at i_end i_worth i_faultKind i_faultPlace i_got i_worked i_deliveries i_isPlanned i_bestDone i_bestCost))]) [0] rfl
      have hD9 := hD.sub (ws' := [(h0, .inr (12, mG q i_taped i_size i_sort i_what i_at i_end i_worth i_faultKind i_faultPlace i_got i_worked i_deliveries i_isPlanned i_bestDone i_bestCost))]) [0] (by decide) rfl
      exact W.iret (v := i_faultPlace) hx hb hr (fun t ht hW => ⟨⟨i_faultPlace, (), rfl, trivial, by rw [ht]; exact hP9, hD9⟩, hS.F ht⟩) hS.2.2 dX12_fault_24
  · refine lv_aload_n hx hb dX12_fault_4 rfl (lv_at hl 0 rfl) ?_
    refine va_get (D := E.1) (ci := 12) (v := .int i_faultKind) (C := RX12) (T := TX12) (N := 59) hx hb hts inX12 hown hK hP 0 rfl rfl 8 (by decide) fl200 (fun _ h9 => h9) rfl dX12_fault_5 ?_
    refine lv_goto (tgt := 24) hx hb dX12_fault_8 (by decide) ?_
    have hP9 := hP.sub (ws' := [(h0, .inr (12, mG q i_taped i_size i_sort i_what i_at i_end i_worth i_faultKind i_faultPlace i_got i_worked i_deliveries i_isPlanned i_bestDone i_bestCost))]) [0] rfl
    have hD9 := hD.sub (ws' := [(h0, .inr (12, mG q i_taped i_size i_sort i_what i_at i_end i_worth i_faultKind i_faultPlace i_got i_worked i_deliveries i_isPlanned i_bestDone i_bestCost))]) [0] (by decide) rfl
    exact W.iret (v := i_faultKind) hx hb hr (fun t ht hW => ⟨⟨i_faultKind, (), rfl, trivial, by rw [ht]; exact hP9, hD9⟩, hS.F ht⟩) hS.2.2 dX12_fault_24
set_option maxHeartbeats 4000000 in
set_option maxRecDepth 100000 in
theorem c_X12_wind (l : Launch) (E : vE) (h0 : Nat) (q : Nat → Nat) (i_taped : Int32) (i_size : Int32) (i_sort : Int32) (i_what : Int32) (i_at : Int32) (i_end : Int32) (i_worth : Int32) (i_faultKind : Int32) (i_faultPlace : Int32) (i_got : Int32) (i_worked : Int32) (i_deliveries : Int32) (i_isPlanned : Int32) (i_bestDone : Int32) (i_bestCost : Int32) (a_windTo : Nat → Int32) (a_windForce : Nat → Int32) (zone : Int32) (month : Int32) (dir : Int32) (force : Int32) (sz : Nat) (hI_windTo : ∀ k : Nat, k < 288 → inR (a_windTo k) 0 7 = true) (hI_windForce : ∀ k : Nat, k < 288 → inR (a_windForce k) 0 9 = true) : Met l yX12_wind wsX12_wind ({ frames := 2, cells := 0, slots := 0, locals := 42 }) (pcW E [.ref h0, .int zone, .int month, .int dir, .int force] sz [(h0, .inr (12, mG q i_taped i_size i_sort i_what i_at i_end i_worth i_faultKind i_faultPlace i_got i_worked i_deliveries i_isPlanned i_bestDone i_bestCost)), (q 17, .inl (E.2.1 0, 288, .inl a_windTo)), (q 18, .inl (E.2.1 0, 288, .inl a_windForce))]) (va_Qi (fun (r : Int32) (u : (Nat → Int32) × (Nat → Int32)) => match u with | (b_windTo, b_windForce) => ((inR zone 0 23 && inR month 0 11 && inR dir 0 7 && inR force 0 9) = true ∧ r = 10 * a_windTo (12 * zone + month).toNatClampNeg + a_windForce (12 * zone + month).toNatClampNeg ∧ b_windTo = upd a_windTo (12 * zone + month).toNatClampNeg dir ∧ b_windForce = upd a_windForce (12 * zone + month).toNatClampNeg force) ∨ ((inR zone 0 23 && inR month 0 11 && inR dir 0 7 && inR force 0 9) = false ∧ r = -2 ∧ b_windTo = a_windTo ∧ b_windForce = a_windForce)) (fun (u : (Nat → Int32) × (Nat → Int32)) (t : State) => match u with | (b_windTo, b_windForce) => (∀ k : Nat, k < 288 → inR (b_windTo k) 0 7 = true) ∧ (∀ k : Nat, k < 288 → inR (b_windForce k) 0 9 = true) ∧ wB E (va_A [(h0, .inr (12, mG q i_taped i_size i_sort i_what i_at i_end i_worth i_faultKind i_faultPlace i_got i_worked i_deliveries i_isPlanned i_bestDone i_bestCost)), (q 17, .inl (E.2.1 0, 288, .inl a_windTo)), (q 18, .inl (E.2.1 0, 288, .inl a_windForce))] sz) [(h0, .inr (12, mG q i_taped i_size i_sort i_what i_at i_end i_worth i_faultKind i_faultPlace i_got i_worked i_deliveries i_isPlanned i_bestDone i_bestCost)), (q 17, .inl (E.2.1 0, 288, .inl b_windTo)), (q 18, .inl (E.2.1 0, 288, .inl b_windForce))] t) (va_A [(h0, .inr (12, mG q i_taped i_size i_sort i_what i_at i_end i_worth i_faultKind i_faultPlace i_got i_worked i_deliveries i_isPlanned i_bestDone i_bestCost)), (q 17, .inl (E.2.1 0, 288, .inl a_windTo)), (q 18, .inl (E.2.1 0, 288, .inl a_windForce))] sz)) 0 0 (va_A [(h0, .inr (12, mG q i_taped i_size i_sort i_what i_at i_end i_worth i_faultKind i_faultPlace i_got i_worked i_deliveries i_isPlanned i_bestDone i_bestCost)), (q 17, .inl (E.2.1 0, 288, .inl a_windTo)), (q 18, .inl (E.2.1 0, 288, .inl a_windForce))] sz) := by
  refine Met.ofW (cc := cX12_wind) (maxL := 7) (ret := (some .int)) (by decide) rfl ?_
  intro p e s m args below meth c s₁ B hml hv
  obtain ⟨rfl, hsz, hP, hkn, hD0, hst⟩ := hv
  have hx := B.exec
  have hb := B.bytes
  have hr := B.returns
  have hts := atoms_spec (ws := wsX12_wind) B.pre
  have hown : s.vm.findClass RX12 = some m.cls := findClass_of_methodNamed B.named
  have hlocks := B.notSynchronized
  subst hsz
  have hD := hD0.self (sz := s.heap.size)
  have hK := hkn.1
  have hAO := hkn.2.2.1
  generalize hAe : va_A [(h0, .inr (12, mG q i_taped i_size i_sort i_what i_at i_end i_worth i_faultKind i_faultPlace i_got i_worked i_deliveries i_isPlanned i_bestDone i_bestCost)), (q 17, .inl (E.2.1 0, 288, .inl a_windTo)), (q 18, .inl (E.2.1 0, 288, .inl a_windForce))] s.heap.size = A at hD hst ⊢
  have hA : ∀ q : Nat, s.heap.size ≤ q → A q := fun q h => by rw [← hAe]; exact Or.inr h
  have hS : va_S A s.heap s.heap [] := va_S.rf
  have hP : va_P E.1 vwCl [(h0, .inr (12, mG q i_taped i_size i_sort i_what i_at i_end i_worth i_faultKind i_faultPlace i_got i_worked i_deliveries i_isPlanned i_bestDone i_bestCost)), (q 17, .inl (E.2.1 0, 288, .inl a_windTo)), (q 18, .inl (E.2.1 0, 288, .inl a_windForce))] s.heap := hP
  have hl := lv_entry ([.ref h0, .int zone, .int month, .int dir, .int force]) (n := 7) (Nat.le_of_ble_eq_true rfl)
  rw [lg_entry_eq]
  generalize (lg_sl ([.ref h0, .int zone, .int month, .int dir, .int force]) ++ List.replicate (7 - (lg_sl ([.ref h0, .int zone, .int month, .int dir, .int force])).length) Slot.unset).toArray = ls at hl ⊢
  have hl : lv_has ls 7 [(0, .ref h0), (1, .int zone), (2, .int month), (3, .int dir), (4, .int force)] := hl
  have fl36 := hts (.fieldLink RX12 36 "BoatsHomeModel" "windTo" "[I") (by first | exact List.mem_of_getElem? (i := 1) rfl | decide +kernel)
  have fl39 := hts (.fieldLink RX12 39 "BoatsHomeModel" "windForce" "[I") (by first | exact List.mem_of_getElem? (i := 2) rfl | decide +kernel)
  have inX12 : ∀ w ∈ u_ws RX12 TX12 59, w ∈ wsX12_wind := by first | exact fun w h9 => (List.mem_cons_of_mem _ (List.mem_append_right _ h9)) | decide +kernel
  refine lv_iload_n hx hb dX12_wind_0 rfl (lv_at hl 1 rfl) ?_
  refine lv_iconst (v := 0) hx hb dX12_wind_1 (by decide) ?_
  refine lv_bipush (v := 23) hx hb dX12_wind_2 (by decide) ?_
  have hPc := hP.sub (ws' := []) [] rfl
  have hDc := hD.sub (ws' := []) [] (by decide) rfl
  have hFc := va_free (wc := []) hD hS hA [] rfl
  refine va_calli (va_runS (As := [.int zone, .int 0, .int 23]) (rest := []) ⟨hx, hb, hml, hown, hts⟩ (c_X12_in l E zone 0 23 s.heap.size ) (va_cwS 3 hts gX12_wind_X12_in rfl rfl rfl hdS_X12_in ⟨Nat.le_of_ble_eq_true rfl, Nat.le_of_ble_eq_true rfl⟩) ⟨pcW_blind, (pcW_pre hPc hkn hDc hst hS hFc)⟩ rfl rfl hl.1 rfl (lv_room (Nat.le_of_ble_eq_true rfl)) dX12_wind_4 ⟨Nat.le_of_ble_eq_true rfl, Nat.le_of_ble_eq_true rfl⟩) hS (fun q _ h => hFc q h) hFc (fun r_1 u t H1 locs ht hvm hw_2 hB hz1 hk1 hS => ?_)
  obtain ⟨hP1, hD1⟩ := hB
  rw [ht] at hP1
  try dsimp only at hw_2
  obtain ⟨hP, hD⟩ := va_join (wr := [(h0, .inr (12, mG q i_taped i_size i_sort i_what i_at i_end i_worth i_faultKind i_faultPlace i_got i_worked i_deliveries i_isPlanned i_bestDone i_bestCost)), (q 17, .inl (E.2.1 0, 288, .inl a_windTo)), (q 18, .inl (E.2.1 0, 288, .inl a_windForce))]) (w1 := []) hP hD [] [0, 1, 2] rfl rfl (by decide) (by decide) hk1 hFc hP1 hD1
  generalize H1 = H at hP hS ⊢
  have hP : va_P E.1 vwCl [(h0, .inr (12, mG q i_taped i_size i_sort i_what i_at i_end i_worth i_faultKind i_faultPlace i_got i_worked i_deliveries i_isPlanned i_bestDone i_bestCost)), (q 17, .inl (E.2.1 0, 288, .inl a_windTo)), (q 18, .inl (E.2.1 0, 288, .inl a_windForce))] H := hP
  have hD : va_D A [(h0, .inr (12, mG q i_taped i_size i_sort i_what i_at i_end i_worth i_faultKind i_faultPlace i_got i_worked i_deliveries i_isPlanned i_bestDone i_bestCost)), (q 17, .inl (E.2.1 0, 288, .inl a_windTo)), (q 18, .inl (E.2.1 0, 288, .inl a_windForce))] := hD
  refine lv_if_eq (tgt := 41) hx hb dX12_wind_7 (by decide) (fun c_3 => ?_) (fun c_3 => ?_)
  · have b_4 : inR zone 0 23 = false := bz hw_2 c_3
    refine lv_bipush (v := (-2)) hx hb dX12_wind_41 (by decide) ?_
    have hP9 := hP.sub (ws' := [(h0, .inr (12, mG q i_taped i_size i_sort i_what i_at i_end i_worth i_faultKind i_faultPlace i_got i_worked i_deliveries i_isPlanned i_bestDone i_bestCost)), (q 17, .inl (E.2.1 0, 288, .inl a_windTo)), (q 18, .inl (E.2.1 0, 288, .inl a_windForce))]) [0, 1, 2] rfl
    have hD9 := hD.sub (ws' := [(h0, .inr (12, mG q i_taped i_size i_sort i_what i_at i_end i_worth i_faultKind i_faultPlace i_got i_worked i_deliveries i_isPlanned i_bestDone i_bestCost)), (q 17, .inl (E.2.1 0, 288, .inl a_windTo)), (q 18, .inl (E.2.1 0, 288, .inl a_windForce))]) [0, 1, 2] (by decide) rfl
    exact W.iret (v := (-2)) hx hb hr (fun t ht hW => ⟨⟨(-2), (a_windTo, a_windForce), rfl, Or.inr ⟨(by first | (rw [b_4]; done) | (rw [b_4]; rfl)), rfl, rfl, rfl⟩, hI_windTo, hI_windForce, by rw [ht]; exact hP9, hD9⟩, hS.F ht⟩) hS.2.2 dX12_wind_43
  · have b_5 : inR zone 0 23 = true := bn hw_2 c_3
    refine lv_iload_n hx hb dX12_wind_10 rfl (lv_at hl 2 rfl) ?_
    refine lv_iconst (v := 0) hx hb dX12_wind_11 (by decide) ?_
    refine lv_bipush (v := 11) hx hb dX12_wind_12 (by decide) ?_
    have hPc := hP.sub (ws' := []) [] rfl
    have hDc := hD.sub (ws' := []) [] (by decide) rfl
    have hFc := va_free (wc := []) hD hS hA [] rfl
    refine va_calli (va_runS (As := [.int month, .int 0, .int 11]) (rest := []) ⟨hx, hb, hml, hown, hts⟩ (c_X12_in l E month 0 11 H.size ) (va_cwS 3 hts gX12_wind_X12_in rfl rfl rfl hdS_X12_in ⟨Nat.le_of_ble_eq_true rfl, Nat.le_of_ble_eq_true rfl⟩) ⟨pcW_blind, (pcW_pre hPc hkn hDc hst hS hFc)⟩ rfl rfl hl.1 rfl (lv_room (Nat.le_of_ble_eq_true rfl)) dX12_wind_14 ⟨Nat.le_of_ble_eq_true rfl, Nat.le_of_ble_eq_true rfl⟩) hS (fun q _ h => hFc q h) hFc (fun r_6 u t H1 locs ht hvm hw_7 hB hz1 hk1 hS => ?_)
    obtain ⟨hP1, hD1⟩ := hB
    rw [ht] at hP1
    try dsimp only at hw_7
    obtain ⟨hP, hD⟩ := va_join (wr := [(h0, .inr (12, mG q i_taped i_size i_sort i_what i_at i_end i_worth i_faultKind i_faultPlace i_got i_worked i_deliveries i_isPlanned i_bestDone i_bestCost)), (q 17, .inl (E.2.1 0, 288, .inl a_windTo)), (q 18, .inl (E.2.1 0, 288, .inl a_windForce))]) (w1 := []) hP hD [] [0, 1, 2] rfl rfl (by decide) (by decide) hk1 hFc hP1 hD1
    generalize H1 = H at hP hS ⊢
    have hP : va_P E.1 vwCl [(h0, .inr (12, mG q i_taped i_size i_sort i_what i_at i_end i_worth i_faultKind i_faultPlace i_got i_worked i_deliveries i_isPlanned i_bestDone i_bestCost)), (q 17, .inl (E.2.1 0, 288, .inl a_windTo)), (q 18, .inl (E.2.1 0, 288, .inl a_windForce))] H := hP
    have hD : va_D A [(h0, .inr (12, mG q i_taped i_size i_sort i_what i_at i_end i_worth i_faultKind i_faultPlace i_got i_worked i_deliveries i_isPlanned i_bestDone i_bestCost)), (q 17, .inl (E.2.1 0, 288, .inl a_windTo)), (q 18, .inl (E.2.1 0, 288, .inl a_windForce))] := hD
    refine lv_if_eq (tgt := 41) hx hb dX12_wind_17 (by decide) (fun c_8 => ?_) (fun c_8 => ?_)
    · have b_9 : inR month 0 11 = false := bz hw_7 c_8
      refine lv_bipush (v := (-2)) hx hb dX12_wind_41 (by decide) ?_
      have hP9 := hP.sub (ws' := [(h0, .inr (12, mG q i_taped i_size i_sort i_what i_at i_end i_worth i_faultKind i_faultPlace i_got i_worked i_deliveries i_isPlanned i_bestDone i_bestCost)), (q 17, .inl (E.2.1 0, 288, .inl a_windTo)), (q 18, .inl (E.2.1 0, 288, .inl a_windForce))]) [0, 1, 2] rfl
      have hD9 := hD.sub (ws' := [(h0, .inr (12, mG q i_taped i_size i_sort i_what i_at i_end i_worth i_faultKind i_faultPlace i_got i_worked i_deliveries i_isPlanned i_bestDone i_bestCost)), (q 17, .inl (E.2.1 0, 288, .inl a_windTo)), (q 18, .inl (E.2.1 0, 288, .inl a_windForce))]) [0, 1, 2] (by decide) rfl
      exact W.iret (v := (-2)) hx hb hr (fun t ht hW => ⟨⟨(-2), (a_windTo, a_windForce), rfl, Or.inr ⟨(by first | (rw [b_5, b_9]; done) | (rw [b_5, b_9]; rfl)), rfl, rfl, rfl⟩, hI_windTo, hI_windForce, by rw [ht]; exact hP9, hD9⟩, hS.F ht⟩) hS.2.2 dX12_wind_43
    · have b_10 : inR month 0 11 = true := bn hw_7 c_8
      refine lv_iload_n hx hb dX12_wind_20 rfl (lv_at hl 3 rfl) ?_
      refine lv_iconst (v := 0) hx hb dX12_wind_21 (by decide) ?_
      refine lv_bipush (v := 7) hx hb dX12_wind_22 (by decide) ?_
      have hPc := hP.sub (ws' := []) [] rfl
      have hDc := hD.sub (ws' := []) [] (by decide) rfl
      have hFc := va_free (wc := []) hD hS hA [] rfl
      refine va_calli (va_runS (As := [.int dir, .int 0, .int 7]) (rest := []) ⟨hx, hb, hml, hown, hts⟩ (c_X12_in l E dir 0 7 H.size ) (va_cwS 3 hts gX12_wind_X12_in rfl rfl rfl hdS_X12_in ⟨Nat.le_of_ble_eq_true rfl, Nat.le_of_ble_eq_true rfl⟩) ⟨pcW_blind, (pcW_pre hPc hkn hDc hst hS hFc)⟩ rfl rfl hl.1 rfl (lv_room (Nat.le_of_ble_eq_true rfl)) dX12_wind_24 ⟨Nat.le_of_ble_eq_true rfl, Nat.le_of_ble_eq_true rfl⟩) hS (fun q _ h => hFc q h) hFc (fun r_11 u t H1 locs ht hvm hw_12 hB hz1 hk1 hS => ?_)
      obtain ⟨hP1, hD1⟩ := hB
      rw [ht] at hP1
      try dsimp only at hw_12
      obtain ⟨hP, hD⟩ := va_join (wr := [(h0, .inr (12, mG q i_taped i_size i_sort i_what i_at i_end i_worth i_faultKind i_faultPlace i_got i_worked i_deliveries i_isPlanned i_bestDone i_bestCost)), (q 17, .inl (E.2.1 0, 288, .inl a_windTo)), (q 18, .inl (E.2.1 0, 288, .inl a_windForce))]) (w1 := []) hP hD [] [0, 1, 2] rfl rfl (by decide) (by decide) hk1 hFc hP1 hD1
      generalize H1 = H at hP hS ⊢
      have hP : va_P E.1 vwCl [(h0, .inr (12, mG q i_taped i_size i_sort i_what i_at i_end i_worth i_faultKind i_faultPlace i_got i_worked i_deliveries i_isPlanned i_bestDone i_bestCost)), (q 17, .inl (E.2.1 0, 288, .inl a_windTo)), (q 18, .inl (E.2.1 0, 288, .inl a_windForce))] H := hP
      have hD : va_D A [(h0, .inr (12, mG q i_taped i_size i_sort i_what i_at i_end i_worth i_faultKind i_faultPlace i_got i_worked i_deliveries i_isPlanned i_bestDone i_bestCost)), (q 17, .inl (E.2.1 0, 288, .inl a_windTo)), (q 18, .inl (E.2.1 0, 288, .inl a_windForce))] := hD
      refine lv_if_eq (tgt := 41) hx hb dX12_wind_27 (by decide) (fun c_13 => ?_) (fun c_13 => ?_)
      · have b_14 : inR dir 0 7 = false := bz hw_12 c_13
        refine lv_bipush (v := (-2)) hx hb dX12_wind_41 (by decide) ?_
        have hP9 := hP.sub (ws' := [(h0, .inr (12, mG q i_taped i_size i_sort i_what i_at i_end i_worth i_faultKind i_faultPlace i_got i_worked i_deliveries i_isPlanned i_bestDone i_bestCost)), (q 17, .inl (E.2.1 0, 288, .inl a_windTo)), (q 18, .inl (E.2.1 0, 288, .inl a_windForce))]) [0, 1, 2] rfl
        have hD9 := hD.sub (ws' := [(h0, .inr (12, mG q i_taped i_size i_sort i_what i_at i_end i_worth i_faultKind i_faultPlace i_got i_worked i_deliveries i_isPlanned i_bestDone i_bestCost)), (q 17, .inl (E.2.1 0, 288, .inl a_windTo)), (q 18, .inl (E.2.1 0, 288, .inl a_windForce))]) [0, 1, 2] (by decide) rfl
        exact W.iret (v := (-2)) hx hb hr (fun t ht hW => ⟨⟨(-2), (a_windTo, a_windForce), rfl, Or.inr ⟨(by first | (rw [b_5, b_10, b_14]; done) | (rw [b_5, b_10, b_14]; rfl)), rfl, rfl, rfl⟩, hI_windTo, hI_windForce, by rw [ht]; exact hP9, hD9⟩, hS.F ht⟩) hS.2.2 dX12_wind_43
      · have b_15 : inR dir 0 7 = true := bn hw_12 c_13
        refine lv_iload hx hb dX12_wind_30 (lv_at hl 4 rfl) ?_
        refine lv_iconst (v := 0) hx hb dX12_wind_32 (by decide) ?_
        refine lv_bipush (v := 9) hx hb dX12_wind_33 (by decide) ?_
        have hPc := hP.sub (ws' := []) [] rfl
        have hDc := hD.sub (ws' := []) [] (by decide) rfl
        have hFc := va_free (wc := []) hD hS hA [] rfl
        refine va_calli (va_runS (As := [.int force, .int 0, .int 9]) (rest := []) ⟨hx, hb, hml, hown, hts⟩ (c_X12_in l E force 0 9 H.size ) (va_cwS 3 hts gX12_wind_X12_in rfl rfl rfl hdS_X12_in ⟨Nat.le_of_ble_eq_true rfl, Nat.le_of_ble_eq_true rfl⟩) ⟨pcW_blind, (pcW_pre hPc hkn hDc hst hS hFc)⟩ rfl rfl hl.1 rfl (lv_room (Nat.le_of_ble_eq_true rfl)) dX12_wind_35 ⟨Nat.le_of_ble_eq_true rfl, Nat.le_of_ble_eq_true rfl⟩) hS (fun q _ h => hFc q h) hFc (fun r_16 u t H1 locs ht hvm hw_17 hB hz1 hk1 hS => ?_)
        obtain ⟨hP1, hD1⟩ := hB
        rw [ht] at hP1
        try dsimp only at hw_17
        obtain ⟨hP, hD⟩ := va_join (wr := [(h0, .inr (12, mG q i_taped i_size i_sort i_what i_at i_end i_worth i_faultKind i_faultPlace i_got i_worked i_deliveries i_isPlanned i_bestDone i_bestCost)), (q 17, .inl (E.2.1 0, 288, .inl a_windTo)), (q 18, .inl (E.2.1 0, 288, .inl a_windForce))]) (w1 := []) hP hD [] [0, 1, 2] rfl rfl (by decide) (by decide) hk1 hFc hP1 hD1
        generalize H1 = H at hP hS ⊢
        have hP : va_P E.1 vwCl [(h0, .inr (12, mG q i_taped i_size i_sort i_what i_at i_end i_worth i_faultKind i_faultPlace i_got i_worked i_deliveries i_isPlanned i_bestDone i_bestCost)), (q 17, .inl (E.2.1 0, 288, .inl a_windTo)), (q 18, .inl (E.2.1 0, 288, .inl a_windForce))] H := hP
        have hD : va_D A [(h0, .inr (12, mG q i_taped i_size i_sort i_what i_at i_end i_worth i_faultKind i_faultPlace i_got i_worked i_deliveries i_isPlanned i_bestDone i_bestCost)), (q 17, .inl (E.2.1 0, 288, .inl a_windTo)), (q 18, .inl (E.2.1 0, 288, .inl a_windForce))] := hD
        refine lv_if_ne (tgt := 44) hx hb dX12_wind_38 (by decide) (fun c_18 => ?_) (fun c_18 => ?_)
        · have b_19 : inR force 0 9 = true := bn hw_17 c_18
          refine lv_bipush (v := 12) hx hb dX12_wind_44 (by decide) ?_
          refine lv_iload_n hx hb dX12_wind_46 rfl (lv_at hl 1 rfl) ?_
          refine lv_imul hx hb dX12_wind_47 ?_
          refine lv_topi (fun x_20 ex_20 => ?_)
          refine lv_iload_n hx hb dX12_wind_48 rfl (lv_at hl 2 rfl) ?_
          refine lv_iadd hx hb dX12_wind_49 ?_
          refine lv_topi (fun x_21 ex_21 => ?_)
          refine lv_istore (lv' := [(5, .int x_21), (0, .ref h0), (1, .int zone), (2, .int month), (3, .int dir), (4, .int force)]) hx hb dX12_wind_50 hl (by decide) rfl (fun ls hl => ?_)
          refine lv_bipush (v := 10) hx hb dX12_wind_52 (by decide) ?_
          refine lv_aload_n hx hb dX12_wind_54 rfl (lv_at hl 1 rfl) ?_
          refine va_get (D := E.1) (ci := 12) (v := .ref (q 17)) (C := RX12) (T := TX12) (N := 59) hx hb hts inX12 hown hK hP 0 rfl rfl 17 (by decide) fl36 (fun _ h9 => h9) rfl dX12_wind_55 ?_
          refine lv_iload hx hb dX12_wind_58 (lv_at hl 0 rfl) ?_
          have hi_22 : vp_in x_21 288 := by rw [ex_21, ex_20]; exact ixB b_5 (a := 23) (by decide) b_10 (b := 11) (by decide) (M := 12) rfl (by decide) (by decide)
          refine va_iald hx hb hK hP 1 0 rfl rfl hi_22 dX12_wind_60 ?_
          refine lv_topi (fun x_23 ex_23 => ?_)
          have hv_24 : inR x_23 0 7 = true := by rw [ex_23]; exact hI_windTo _ (vin_cl hi_22)
          refine lv_imul hx hb dX12_wind_61 ?_
          refine lv_topi (fun x_25 ex_25 => ?_)
          refine lv_aload_n hx hb dX12_wind_62 rfl (lv_at hl 1 rfl) ?_
          refine va_get (D := E.1) (ci := 12) (v := .ref (q 18)) (C := RX12) (T := TX12) (N := 59) hx hb hts inX12 hown hK hP 0 rfl rfl 18 (by decide) fl39 (fun _ h9 => h9) rfl dX12_wind_63 ?_
          refine lv_iload hx hb dX12_wind_66 (lv_at hl 0 rfl) ?_
          refine va_iald hx hb hK hP 2 0 rfl rfl hi_22 dX12_wind_68 ?_
          refine lv_topi (fun x_26 ex_26 => ?_)
          have hv_27 : inR x_26 0 9 = true := by rw [ex_26]; exact hI_windForce _ (vin_cl hi_22)
          refine lv_iadd hx hb dX12_wind_69 ?_
          refine lv_topi (fun x_28 ex_28 => ?_)
          refine lv_istore (lv' := [(6, .int x_28), (5, .int x_21), (0, .ref h0), (1, .int zone), (2, .int month), (3, .int dir), (4, .int force)]) hx hb dX12_wind_70 hl (by decide) rfl (fun ls hl => ?_)
          refine lv_aload_n hx hb dX12_wind_72 rfl (lv_at hl 2 rfl) ?_
          refine va_get (D := E.1) (ci := 12) (v := .ref (q 17)) (C := RX12) (T := TX12) (N := 59) hx hb hts inX12 hown hK hP 0 rfl rfl 17 (by decide) fl36 (fun _ h9 => h9) rfl dX12_wind_73 ?_
          refine lv_iload hx hb dX12_wind_76 (lv_at hl 1 rfl) ?_
          refine lv_iload_n hx hb dX12_wind_78 rfl (lv_at hl 5 rfl) ?_
          refine va_iast hx hb hK hP hD hS 1 0 rfl rfl hi_22 dX12_wind_79 (fun H locs hP hD hS => ?_)
          have hP : va_P E.1 vwCl [(h0, .inr (12, mG q i_taped i_size i_sort i_what i_at i_end i_worth i_faultKind i_faultPlace i_got i_worked i_deliveries i_isPlanned i_bestDone i_bestCost)), (q 17, .inl (E.2.1 0, 288, .inl (upd a_windTo x_21.toNatClampNeg dir))), (q 18, .inl (E.2.1 0, 288, .inl a_windForce))] H := hP
          have hD : va_D A [(h0, .inr (12, mG q i_taped i_size i_sort i_what i_at i_end i_worth i_faultKind i_faultPlace i_got i_worked i_deliveries i_isPlanned i_bestDone i_bestCost)), (q 17, .inl (E.2.1 0, 288, .inl (upd a_windTo x_21.toNatClampNeg dir))), (q 18, .inl (E.2.1 0, 288, .inl a_windForce))] := hD
          obtain ⟨f_29, ef_29⟩ : ∃ g : Nat → Int32, g = upd a_windTo x_21.toNatClampNeg dir := ⟨_, rfl⟩
          rw [← ef_29] at hP hD
          have hI_30 : ∀ k : Nat, k < 288 → inR (f_29 k) 0 7 = true := by rw [ef_29]; exact all_upd (P := fun z => inR z 0 7 = true) hI_windTo b_15
          refine lv_aload_n hx hb dX12_wind_80 rfl (lv_at hl 2 rfl) ?_
          refine va_get (D := E.1) (ci := 12) (v := .ref (q 18)) (C := RX12) (T := TX12) (N := 59) hx hb hts inX12 hown hK hP 0 rfl rfl 18 (by decide) fl39 (fun _ h9 => h9) rfl dX12_wind_81 ?_
          refine lv_iload hx hb dX12_wind_84 (lv_at hl 1 rfl) ?_
          refine lv_iload hx hb dX12_wind_86 (lv_at hl 6 rfl) ?_
          refine va_iast hx hb hK hP hD hS 2 0 rfl rfl hi_22 dX12_wind_88 (fun H locs hP hD hS => ?_)
          have hP : va_P E.1 vwCl [(h0, .inr (12, mG q i_taped i_size i_sort i_what i_at i_end i_worth i_faultKind i_faultPlace i_got i_worked i_deliveries i_isPlanned i_bestDone i_bestCost)), (q 17, .inl (E.2.1 0, 288, .inl f_29)), (q 18, .inl (E.2.1 0, 288, .inl (upd a_windForce x_21.toNatClampNeg force)))] H := hP
          have hD : va_D A [(h0, .inr (12, mG q i_taped i_size i_sort i_what i_at i_end i_worth i_faultKind i_faultPlace i_got i_worked i_deliveries i_isPlanned i_bestDone i_bestCost)), (q 17, .inl (E.2.1 0, 288, .inl f_29)), (q 18, .inl (E.2.1 0, 288, .inl (upd a_windForce x_21.toNatClampNeg force)))] := hD
          obtain ⟨f_31, ef_31⟩ : ∃ g : Nat → Int32, g = upd a_windForce x_21.toNatClampNeg force := ⟨_, rfl⟩
          rw [← ef_31] at hP hD
          have hI_32 : ∀ k : Nat, k < 288 → inR (f_31 k) 0 9 = true := by rw [ef_31]; exact all_upd (P := fun z => inR z 0 9 = true) hI_windForce b_19
          refine lv_iload hx hb dX12_wind_89 (lv_at hl 0 rfl) ?_
          have hP9 := hP.sub (ws' := [(h0, .inr (12, mG q i_taped i_size i_sort i_what i_at i_end i_worth i_faultKind i_faultPlace i_got i_worked i_deliveries i_isPlanned i_bestDone i_bestCost)), (q 17, .inl (E.2.1 0, 288, .inl f_29)), (q 18, .inl (E.2.1 0, 288, .inl f_31))]) [0, 1, 2] rfl
          have hD9 := hD.sub (ws' := [(h0, .inr (12, mG q i_taped i_size i_sort i_what i_at i_end i_worth i_faultKind i_faultPlace i_got i_worked i_deliveries i_isPlanned i_bestDone i_bestCost)), (q 17, .inl (E.2.1 0, 288, .inl f_29)), (q 18, .inl (E.2.1 0, 288, .inl f_31))]) [0, 1, 2] (by decide) rfl
          exact W.iret (v := x_28) hx hb hr (fun t ht hW => ⟨⟨x_28, (f_29, f_31), rfl, Or.inl ⟨(by first | (rw [b_5, b_10, b_15, b_19]; done) | (rw [b_5, b_10, b_15, b_19]; rfl)), by simp only [ex_28, ex_20, ex_21, ex_23, ex_25, ex_26], by rw [ef_29, ex_21, ex_20], by rw [ef_31, ex_21, ex_20]⟩, hI_30, hI_32, by rw [ht]; exact hP9, hD9⟩, hS.F ht⟩) hS.2.2 dX12_wind_91
        · have b_33 : inR force 0 9 = false := bz hw_17 c_18
          refine lv_bipush (v := (-2)) hx hb dX12_wind_41 (by decide) ?_
          have hP9 := hP.sub (ws' := [(h0, .inr (12, mG q i_taped i_size i_sort i_what i_at i_end i_worth i_faultKind i_faultPlace i_got i_worked i_deliveries i_isPlanned i_bestDone i_bestCost)), (q 17, .inl (E.2.1 0, 288, .inl a_windTo)), (q 18, .inl (E.2.1 0, 288, .inl a_windForce))]) [0, 1, 2] rfl
          have hD9 := hD.sub (ws' := [(h0, .inr (12, mG q i_taped i_size i_sort i_what i_at i_end i_worth i_faultKind i_faultPlace i_got i_worked i_deliveries i_isPlanned i_bestDone i_bestCost)), (q 17, .inl (E.2.1 0, 288, .inl a_windTo)), (q 18, .inl (E.2.1 0, 288, .inl a_windForce))]) [0, 1, 2] (by decide) rfl
          exact W.iret (v := (-2)) hx hb hr (fun t ht hW => ⟨⟨(-2), (a_windTo, a_windForce), rfl, Or.inr ⟨(by first | (rw [b_5, b_10, b_15, b_33]; done) | (rw [b_5, b_10, b_15, b_33]; rfl)), rfl, rfl, rfl⟩, hI_windTo, hI_windForce, by rw [ht]; exact hP9, hD9⟩, hS.F ht⟩) hS.2.2 dX12_wind_43
set_option maxHeartbeats 4000000 in
set_option maxRecDepth 100000 in
theorem c_X12_port (l : Launch) (E : vE) (h0 : Nat) (q : Nat → Nat) (i_taped : Int32) (i_size : Int32) (i_sort : Int32) (i_what : Int32) (i_at : Int32) (i_end : Int32) (i_worth : Int32) (i_faultKind : Int32) (i_faultPlace : Int32) (i_got : Int32) (i_worked : Int32) (i_deliveries : Int32) (i_isPlanned : Int32) (i_bestDone : Int32) (i_bestCost : Int32) (a_ports : Nat → Int32) (pp : Int32) (place : Int32) (sz : Nat) (hI_ports : ∀ k : Nat, k < 10 → isPl (a_ports k) = true) : Met l yX12_port wsX12_port ({ frames := 2, cells := 0, slots := 0, locals := 42 }) (pcW E [.ref h0, .int pp, .int place] sz [(h0, .inr (12, mG q i_taped i_size i_sort i_what i_at i_end i_worth i_faultKind i_faultPlace i_got i_worked i_deliveries i_isPlanned i_bestDone i_bestCost)), (q 19, .inl (E.2.1 0, 10, .inl a_ports))]) (va_Qi (fun (r : Int32) (b_ports : (Nat → Int32)) => ((inR pp 0 9 && isPl place) = true ∧ r = a_ports pp.toNatClampNeg ∧ b_ports = upd a_ports pp.toNatClampNeg place) ∨ ((inR pp 0 9 && isPl place) = false ∧ r = -2 ∧ b_ports = a_ports)) (fun (b_ports : (Nat → Int32)) (t : State) => (∀ k : Nat, k < 10 → isPl (b_ports k) = true) ∧ wB E (va_A [(h0, .inr (12, mG q i_taped i_size i_sort i_what i_at i_end i_worth i_faultKind i_faultPlace i_got i_worked i_deliveries i_isPlanned i_bestDone i_bestCost)), (q 19, .inl (E.2.1 0, 10, .inl a_ports))] sz) [(h0, .inr (12, mG q i_taped i_size i_sort i_what i_at i_end i_worth i_faultKind i_faultPlace i_got i_worked i_deliveries i_isPlanned i_bestDone i_bestCost)), (q 19, .inl (E.2.1 0, 10, .inl b_ports))] t) (va_A [(h0, .inr (12, mG q i_taped i_size i_sort i_what i_at i_end i_worth i_faultKind i_faultPlace i_got i_worked i_deliveries i_isPlanned i_bestDone i_bestCost)), (q 19, .inl (E.2.1 0, 10, .inl a_ports))] sz)) 0 0 (va_A [(h0, .inr (12, mG q i_taped i_size i_sort i_what i_at i_end i_worth i_faultKind i_faultPlace i_got i_worked i_deliveries i_isPlanned i_bestDone i_bestCost)), (q 19, .inl (E.2.1 0, 10, .inl a_ports))] sz) := by
  refine Met.ofW (cc := cX12_port) (maxL := 4) (ret := (some .int)) (by decide) rfl ?_
  intro p e s m args below meth c s₁ B hml hv
  obtain ⟨rfl, hsz, hP, hkn, hD0, hst⟩ := hv
  have hx := B.exec
  have hb := B.bytes
  have hr := B.returns
  have hts := atoms_spec (ws := wsX12_port) B.pre
  have hown : s.vm.findClass RX12 = some m.cls := findClass_of_methodNamed B.named
  have hlocks := B.notSynchronized
  subst hsz
  have hD := hD0.self (sz := s.heap.size)
  have hK := hkn.1
  have hAO := hkn.2.2.1
  generalize hAe : va_A [(h0, .inr (12, mG q i_taped i_size i_sort i_what i_at i_end i_worth i_faultKind i_faultPlace i_got i_worked i_deliveries i_isPlanned i_bestDone i_bestCost)), (q 19, .inl (E.2.1 0, 10, .inl a_ports))] s.heap.size = A at hD hst ⊢
  have hA : ∀ q : Nat, s.heap.size ≤ q → A q := fun q h => by rw [← hAe]; exact Or.inr h
  have hS : va_S A s.heap s.heap [] := va_S.rf
  have hP : va_P E.1 vwCl [(h0, .inr (12, mG q i_taped i_size i_sort i_what i_at i_end i_worth i_faultKind i_faultPlace i_got i_worked i_deliveries i_isPlanned i_bestDone i_bestCost)), (q 19, .inl (E.2.1 0, 10, .inl a_ports))] s.heap := hP
  have hl := lv_entry ([.ref h0, .int pp, .int place]) (n := 4) (Nat.le_of_ble_eq_true rfl)
  rw [lg_entry_eq]
  generalize (lg_sl ([.ref h0, .int pp, .int place]) ++ List.replicate (4 - (lg_sl ([.ref h0, .int pp, .int place])).length) Slot.unset).toArray = ls at hl ⊢
  have hl : lv_has ls 4 [(0, .ref h0), (1, .int pp), (2, .int place)] := hl
  have fl42 := hts (.fieldLink RX12 42 "BoatsHomeModel" "ports" "[I") (by first | exact List.mem_of_getElem? (i := 1) rfl | decide +kernel)
  have inX12 : ∀ w ∈ u_ws RX12 TX12 59, w ∈ wsX12_port := by first | exact fun w h9 => (List.mem_cons_of_mem _ (List.mem_append_right _ h9)) | decide +kernel
  refine lv_iload_n hx hb dX12_port_0 rfl (lv_at hl 1 rfl) ?_
  have hPc := hP.sub (ws' := []) [] rfl
  have hDc := hD.sub (ws' := []) [] (by decide) rfl
  have hFc := va_free (wc := []) hD hS hA [] rfl
  refine va_calli (va_runS (As := [.int pp]) (rest := []) ⟨hx, hb, hml, hown, hts⟩ (c_X12_isPort l E pp s.heap.size ) (va_cwS 1 hts gX12_port_X12_isPort rfl rfl rfl hdS_X12_isPort ⟨Nat.le_of_ble_eq_true rfl, Nat.le_of_ble_eq_true rfl⟩) ⟨pcW_blind, (pcW_pre hPc hkn hDc hst hS hFc)⟩ rfl rfl hl.1 rfl (lv_room (Nat.le_of_ble_eq_true rfl)) dX12_port_1 ⟨Nat.le_of_ble_eq_true rfl, Nat.le_of_ble_eq_true rfl⟩) hS (fun q _ h => hFc q h) hFc (fun r_1 u t H1 locs ht hvm hw_2 hB hz1 hk1 hS => ?_)
  obtain ⟨hP1, hD1⟩ := hB
  rw [ht] at hP1
  try dsimp only at hw_2
  obtain ⟨hP, hD⟩ := va_join (wr := [(h0, .inr (12, mG q i_taped i_size i_sort i_what i_at i_end i_worth i_faultKind i_faultPlace i_got i_worked i_deliveries i_isPlanned i_bestDone i_bestCost)), (q 19, .inl (E.2.1 0, 10, .inl a_ports))]) (w1 := []) hP hD [] [0, 1] rfl rfl (by decide) (by decide) hk1 hFc hP1 hD1
  generalize H1 = H at hP hS ⊢
  have hP : va_P E.1 vwCl [(h0, .inr (12, mG q i_taped i_size i_sort i_what i_at i_end i_worth i_faultKind i_faultPlace i_got i_worked i_deliveries i_isPlanned i_bestDone i_bestCost)), (q 19, .inl (E.2.1 0, 10, .inl a_ports))] H := hP
  have hD : va_D A [(h0, .inr (12, mG q i_taped i_size i_sort i_what i_at i_end i_worth i_faultKind i_faultPlace i_got i_worked i_deliveries i_isPlanned i_bestDone i_bestCost)), (q 19, .inl (E.2.1 0, 10, .inl a_ports))] := hD
  refine lv_if_eq (tgt := 14) hx hb dX12_port_4 (by decide) (fun c_3 => ?_) (fun c_3 => ?_)
  · have b_4 : inR pp 0 9 = false := bz hw_2 c_3
    refine lv_bipush (v := (-2)) hx hb dX12_port_14 (by decide) ?_
    have hP9 := hP.sub (ws' := [(h0, .inr (12, mG q i_taped i_size i_sort i_what i_at i_end i_worth i_faultKind i_faultPlace i_got i_worked i_deliveries i_isPlanned i_bestDone i_bestCost)), (q 19, .inl (E.2.1 0, 10, .inl a_ports))]) [0, 1] rfl
    have hD9 := hD.sub (ws' := [(h0, .inr (12, mG q i_taped i_size i_sort i_what i_at i_end i_worth i_faultKind i_faultPlace i_got i_worked i_deliveries i_isPlanned i_bestDone i_bestCost)), (q 19, .inl (E.2.1 0, 10, .inl a_ports))]) [0, 1] (by decide) rfl
    exact W.iret (v := (-2)) hx hb hr (fun t ht hW => ⟨⟨(-2), a_ports, rfl, Or.inr ⟨(by first | (rw [b_4]; done) | (rw [b_4]; rfl)), rfl, rfl⟩, hI_ports, by rw [ht]; exact hP9, hD9⟩, hS.F ht⟩) hS.2.2 dX12_port_16
  · have b_5 : inR pp 0 9 = true := bn hw_2 c_3
    refine lv_iload_n hx hb dX12_port_7 rfl (lv_at hl 2 rfl) ?_
    have hPc := hP.sub (ws' := []) [] rfl
    have hDc := hD.sub (ws' := []) [] (by decide) rfl
    have hFc := va_free (wc := []) hD hS hA [] rfl
    refine va_calli (va_runS (As := [.int place]) (rest := []) ⟨hx, hb, hml, hown, hts⟩ (c_X12_isPlace l E place H.size ) (va_cwS 1 hts gX12_port_X12_isPlace rfl rfl rfl hdS_X12_isPlace ⟨Nat.le_of_ble_eq_true rfl, Nat.le_of_ble_eq_true rfl⟩) ⟨pcW_blind, (pcW_pre hPc hkn hDc hst hS hFc)⟩ rfl rfl hl.1 rfl (lv_room (Nat.le_of_ble_eq_true rfl)) dX12_port_8 ⟨Nat.le_of_ble_eq_true rfl, Nat.le_of_ble_eq_true rfl⟩) hS (fun q _ h => hFc q h) hFc (fun r_6 u t H1 locs ht hvm hw_7 hB hz1 hk1 hS => ?_)
    obtain ⟨hP1, hD1⟩ := hB
    rw [ht] at hP1
    try dsimp only at hw_7
    obtain ⟨hP, hD⟩ := va_join (wr := [(h0, .inr (12, mG q i_taped i_size i_sort i_what i_at i_end i_worth i_faultKind i_faultPlace i_got i_worked i_deliveries i_isPlanned i_bestDone i_bestCost)), (q 19, .inl (E.2.1 0, 10, .inl a_ports))]) (w1 := []) hP hD [] [0, 1] rfl rfl (by decide) (by decide) hk1 hFc hP1 hD1
    generalize H1 = H at hP hS ⊢
    have hP : va_P E.1 vwCl [(h0, .inr (12, mG q i_taped i_size i_sort i_what i_at i_end i_worth i_faultKind i_faultPlace i_got i_worked i_deliveries i_isPlanned i_bestDone i_bestCost)), (q 19, .inl (E.2.1 0, 10, .inl a_ports))] H := hP
    have hD : va_D A [(h0, .inr (12, mG q i_taped i_size i_sort i_what i_at i_end i_worth i_faultKind i_faultPlace i_got i_worked i_deliveries i_isPlanned i_bestDone i_bestCost)), (q 19, .inl (E.2.1 0, 10, .inl a_ports))] := hD
    refine lv_if_ne (tgt := 17) hx hb dX12_port_11 (by decide) (fun c_8 => ?_) (fun c_8 => ?_)
    · have b_9 : isPl place = true := bn hw_7 c_8
      refine lv_aload_n hx hb dX12_port_17 rfl (lv_at hl 0 rfl) ?_
      refine va_get (D := E.1) (ci := 12) (v := .ref (q 19)) (C := RX12) (T := TX12) (N := 59) hx hb hts inX12 hown hK hP 0 rfl rfl 19 (by decide) fl42 (fun _ h9 => h9) rfl dX12_port_18 ?_
      refine lv_iload_n hx hb dX12_port_21 rfl (lv_at hl 1 rfl) ?_
      have hi_10 : vp_in pp 10 := inR_in (by decide) b_5
      refine va_iald hx hb hK hP 1 0 rfl rfl hi_10 dX12_port_22 ?_
      refine lv_topi (fun x_11 ex_11 => ?_)
      have hv_12 : isPl x_11 = true := by rw [ex_11]; exact hI_ports _ (vin_cl hi_10)
      refine lv_istore_n (lv' := [(3, .int x_11), (0, .ref h0), (1, .int pp), (2, .int place)]) hx hb dX12_port_23 rfl hl (by decide) rfl (fun ls hl => ?_)
      refine lv_aload_n hx hb dX12_port_24 rfl (lv_at hl 1 rfl) ?_
      refine va_get (D := E.1) (ci := 12) (v := .ref (q 19)) (C := RX12) (T := TX12) (N := 59) hx hb hts inX12 hown hK hP 0 rfl rfl 19 (by decide) fl42 (fun _ h9 => h9) rfl dX12_port_25 ?_
      refine lv_iload_n hx hb dX12_port_28 rfl (lv_at hl 2 rfl) ?_
      refine lv_iload_n hx hb dX12_port_29 rfl (lv_at hl 3 rfl) ?_
      refine va_iast hx hb hK hP hD hS 1 0 rfl rfl hi_10 dX12_port_30 (fun H locs hP hD hS => ?_)
      have hP : va_P E.1 vwCl [(h0, .inr (12, mG q i_taped i_size i_sort i_what i_at i_end i_worth i_faultKind i_faultPlace i_got i_worked i_deliveries i_isPlanned i_bestDone i_bestCost)), (q 19, .inl (E.2.1 0, 10, .inl (upd a_ports pp.toNatClampNeg place)))] H := hP
      have hD : va_D A [(h0, .inr (12, mG q i_taped i_size i_sort i_what i_at i_end i_worth i_faultKind i_faultPlace i_got i_worked i_deliveries i_isPlanned i_bestDone i_bestCost)), (q 19, .inl (E.2.1 0, 10, .inl (upd a_ports pp.toNatClampNeg place)))] := hD
      obtain ⟨f_13, ef_13⟩ : ∃ g : Nat → Int32, g = upd a_ports pp.toNatClampNeg place := ⟨_, rfl⟩
      rw [← ef_13] at hP hD
      have hI_14 : ∀ k : Nat, k < 10 → isPl (f_13 k) = true := by rw [ef_13]; exact all_upd (P := fun z => isPl z = true) hI_ports b_9
      refine lv_iload_n hx hb dX12_port_31 rfl (lv_at hl 0 rfl) ?_
      have hP9 := hP.sub (ws' := [(h0, .inr (12, mG q i_taped i_size i_sort i_what i_at i_end i_worth i_faultKind i_faultPlace i_got i_worked i_deliveries i_isPlanned i_bestDone i_bestCost)), (q 19, .inl (E.2.1 0, 10, .inl f_13))]) [0, 1] rfl
      have hD9 := hD.sub (ws' := [(h0, .inr (12, mG q i_taped i_size i_sort i_what i_at i_end i_worth i_faultKind i_faultPlace i_got i_worked i_deliveries i_isPlanned i_bestDone i_bestCost)), (q 19, .inl (E.2.1 0, 10, .inl f_13))]) [0, 1] (by decide) rfl
      exact W.iret (v := x_11) hx hb hr (fun t ht hW => ⟨⟨x_11, f_13, rfl, Or.inl ⟨(by first | (rw [b_5, b_9]; done) | (rw [b_5, b_9]; rfl)), by rw [ex_11], by rw [ef_13]⟩, hI_14, by rw [ht]; exact hP9, hD9⟩, hS.F ht⟩) hS.2.2 dX12_port_32
    · have b_15 : isPl place = false := bz hw_7 c_8
      refine lv_bipush (v := (-2)) hx hb dX12_port_14 (by decide) ?_
      have hP9 := hP.sub (ws' := [(h0, .inr (12, mG q i_taped i_size i_sort i_what i_at i_end i_worth i_faultKind i_faultPlace i_got i_worked i_deliveries i_isPlanned i_bestDone i_bestCost)), (q 19, .inl (E.2.1 0, 10, .inl a_ports))]) [0, 1] rfl
      have hD9 := hD.sub (ws' := [(h0, .inr (12, mG q i_taped i_size i_sort i_what i_at i_end i_worth i_faultKind i_faultPlace i_got i_worked i_deliveries i_isPlanned i_bestDone i_bestCost)), (q 19, .inl (E.2.1 0, 10, .inl a_ports))]) [0, 1] (by decide) rfl
      exact W.iret (v := (-2)) hx hb hr (fun t ht hW => ⟨⟨(-2), a_ports, rfl, Or.inr ⟨(by first | (rw [b_5, b_15]; done) | (rw [b_5, b_15]; rfl)), rfl, rfl⟩, hI_ports, by rw [ht]; exact hP9, hD9⟩, hS.F ht⟩) hS.2.2 dX12_port_16
set_option maxHeartbeats 4000000 in
set_option maxRecDepth 100000 in
theorem c_X12_speed (l : Launch) (E : vE) (h0 : Nat) (q : Nat → Nat) (i_taped : Int32) (i_size : Int32) (i_sort : Int32) (i_what : Int32) (i_at : Int32) (i_end : Int32) (i_worth : Int32) (i_faultKind : Int32) (i_faultPlace : Int32) (i_got : Int32) (i_worked : Int32) (i_deliveries : Int32) (i_isPlanned : Int32) (i_bestDone : Int32) (i_bestCost : Int32) (a_speeds : Nat → Int32) (b : Int32) (angle : Int32) (band : Int32) (tenths : Int32) (sz : Nat) : Met l yX12_speed wsX12_speed ({ frames := 2, cells := 0, slots := 0, locals := 42 }) (pcW E [.ref h0, .int b, .int angle, .int band, .int tenths] sz [(h0, .inr (12, mG q i_taped i_size i_sort i_what i_at i_end i_worth i_faultKind i_faultPlace i_got i_worked i_deliveries i_isPlanned i_bestDone i_bestCost)), (q 20, .inl (E.2.1 0, 150, .inl a_speeds))]) (va_Qi (fun (r : Int32) (b_speeds : (Nat → Int32)) => ((inR b 0 5 && inR angle 0 4 && inR band 0 4 && inR tenths 0 40) = true ∧ r = a_speeds (25 * b + 5 * angle + band).toNatClampNeg ∧ b_speeds = upd a_speeds (25 * b + 5 * angle + band).toNatClampNeg tenths) ∨ ((inR b 0 5 && inR angle 0 4 && inR band 0 4 && inR tenths 0 40) = false ∧ r = -2 ∧ b_speeds = a_speeds)) (fun (b_speeds : (Nat → Int32)) (t : State) => wB E (va_A [(h0, .inr (12, mG q i_taped i_size i_sort i_what i_at i_end i_worth i_faultKind i_faultPlace i_got i_worked i_deliveries i_isPlanned i_bestDone i_bestCost)), (q 20, .inl (E.2.1 0, 150, .inl a_speeds))] sz) [(h0, .inr (12, mG q i_taped i_size i_sort i_what i_at i_end i_worth i_faultKind i_faultPlace i_got i_worked i_deliveries i_isPlanned i_bestDone i_bestCost)), (q 20, .inl (E.2.1 0, 150, .inl b_speeds))] t) (va_A [(h0, .inr (12, mG q i_taped i_size i_sort i_what i_at i_end i_worth i_faultKind i_faultPlace i_got i_worked i_deliveries i_isPlanned i_bestDone i_bestCost)), (q 20, .inl (E.2.1 0, 150, .inl a_speeds))] sz)) 0 0 (va_A [(h0, .inr (12, mG q i_taped i_size i_sort i_what i_at i_end i_worth i_faultKind i_faultPlace i_got i_worked i_deliveries i_isPlanned i_bestDone i_bestCost)), (q 20, .inl (E.2.1 0, 150, .inl a_speeds))] sz) := by
  refine Met.ofW (cc := cX12_speed) (maxL := 7) (ret := (some .int)) (by decide) rfl ?_
  intro p e s m args below meth c s₁ B hml hv
  obtain ⟨rfl, hsz, hP, hkn, hD0, hst⟩ := hv
  have hx := B.exec
  have hb := B.bytes
  have hr := B.returns
  have hts := atoms_spec (ws := wsX12_speed) B.pre
  have hown : s.vm.findClass RX12 = some m.cls := findClass_of_methodNamed B.named
  have hlocks := B.notSynchronized
  subst hsz
  have hD := hD0.self (sz := s.heap.size)
  have hK := hkn.1
  have hAO := hkn.2.2.1
  generalize hAe : va_A [(h0, .inr (12, mG q i_taped i_size i_sort i_what i_at i_end i_worth i_faultKind i_faultPlace i_got i_worked i_deliveries i_isPlanned i_bestDone i_bestCost)), (q 20, .inl (E.2.1 0, 150, .inl a_speeds))] s.heap.size = A at hD hst ⊢
  have hA : ∀ q : Nat, s.heap.size ≤ q → A q := fun q h => by rw [← hAe]; exact Or.inr h
  have hS : va_S A s.heap s.heap [] := va_S.rf
  have hP : va_P E.1 vwCl [(h0, .inr (12, mG q i_taped i_size i_sort i_what i_at i_end i_worth i_faultKind i_faultPlace i_got i_worked i_deliveries i_isPlanned i_bestDone i_bestCost)), (q 20, .inl (E.2.1 0, 150, .inl a_speeds))] s.heap := hP
  have hl := lv_entry ([.ref h0, .int b, .int angle, .int band, .int tenths]) (n := 7) (Nat.le_of_ble_eq_true rfl)
  rw [lg_entry_eq]
  generalize (lg_sl ([.ref h0, .int b, .int angle, .int band, .int tenths]) ++ List.replicate (7 - (lg_sl ([.ref h0, .int b, .int angle, .int band, .int tenths])).length) Slot.unset).toArray = ls at hl ⊢
  have hl : lv_has ls 7 [(0, .ref h0), (1, .int b), (2, .int angle), (3, .int band), (4, .int tenths)] := hl
  have fl45 := hts (.fieldLink RX12 45 "BoatsHomeModel" "speeds" "[I") (by first | exact List.mem_of_getElem? (i := 1) rfl | decide +kernel)
  have inX12 : ∀ w ∈ u_ws RX12 TX12 59, w ∈ wsX12_speed := by first | exact fun w h9 => (List.mem_cons_of_mem _ (List.mem_append_right _ h9)) | decide +kernel
  refine lv_iload_n hx hb dX12_speed_0 rfl (lv_at hl 1 rfl) ?_
  have hPc := hP.sub (ws' := []) [] rfl
  have hDc := hD.sub (ws' := []) [] (by decide) rfl
  have hFc := va_free (wc := []) hD hS hA [] rfl
  refine va_calli (va_runS (As := [.int b]) (rest := []) ⟨hx, hb, hml, hown, hts⟩ (c_X12_isBoat l E b s.heap.size ) (va_cwS 1 hts gX12_speed_X12_isBoat rfl rfl rfl hdS_X12_isBoat ⟨Nat.le_of_ble_eq_true rfl, Nat.le_of_ble_eq_true rfl⟩) ⟨pcW_blind, (pcW_pre hPc hkn hDc hst hS hFc)⟩ rfl rfl hl.1 rfl (lv_room (Nat.le_of_ble_eq_true rfl)) dX12_speed_1 ⟨Nat.le_of_ble_eq_true rfl, Nat.le_of_ble_eq_true rfl⟩) hS (fun q _ h => hFc q h) hFc (fun r_1 u t H1 locs ht hvm hw_2 hB hz1 hk1 hS => ?_)
  obtain ⟨hP1, hD1⟩ := hB
  rw [ht] at hP1
  try dsimp only at hw_2
  obtain ⟨hP, hD⟩ := va_join (wr := [(h0, .inr (12, mG q i_taped i_size i_sort i_what i_at i_end i_worth i_faultKind i_faultPlace i_got i_worked i_deliveries i_isPlanned i_bestDone i_bestCost)), (q 20, .inl (E.2.1 0, 150, .inl a_speeds))]) (w1 := []) hP hD [] [0, 1] rfl rfl (by decide) (by decide) hk1 hFc hP1 hD1
  generalize H1 = H at hP hS ⊢
  have hP : va_P E.1 vwCl [(h0, .inr (12, mG q i_taped i_size i_sort i_what i_at i_end i_worth i_faultKind i_faultPlace i_got i_worked i_deliveries i_isPlanned i_bestDone i_bestCost)), (q 20, .inl (E.2.1 0, 150, .inl a_speeds))] H := hP
  have hD : va_D A [(h0, .inr (12, mG q i_taped i_size i_sort i_what i_at i_end i_worth i_faultKind i_faultPlace i_got i_worked i_deliveries i_isPlanned i_bestDone i_bestCost)), (q 20, .inl (E.2.1 0, 150, .inl a_speeds))] := hD
  refine lv_if_eq (tgt := 36) hx hb dX12_speed_4 (by decide) (fun c_3 => ?_) (fun c_3 => ?_)
  · have b_4 : inR b 0 5 = false := bz hw_2 c_3
    refine lv_bipush (v := (-2)) hx hb dX12_speed_36 (by decide) ?_
    have hP9 := hP.sub (ws' := [(h0, .inr (12, mG q i_taped i_size i_sort i_what i_at i_end i_worth i_faultKind i_faultPlace i_got i_worked i_deliveries i_isPlanned i_bestDone i_bestCost)), (q 20, .inl (E.2.1 0, 150, .inl a_speeds))]) [0, 1] rfl
    have hD9 := hD.sub (ws' := [(h0, .inr (12, mG q i_taped i_size i_sort i_what i_at i_end i_worth i_faultKind i_faultPlace i_got i_worked i_deliveries i_isPlanned i_bestDone i_bestCost)), (q 20, .inl (E.2.1 0, 150, .inl a_speeds))]) [0, 1] (by decide) rfl
    exact W.iret (v := (-2)) hx hb hr (fun t ht hW => ⟨⟨(-2), a_speeds, rfl, Or.inr ⟨(by first | (rw [b_4]; done) | (rw [b_4]; rfl)), rfl, rfl⟩, by rw [ht]; exact hP9, hD9⟩, hS.F ht⟩) hS.2.2 dX12_speed_38
  · have b_5 : inR b 0 5 = true := bn hw_2 c_3
    refine lv_iload_n hx hb dX12_speed_7 rfl (lv_at hl 2 rfl) ?_
    refine lv_iconst (v := 0) hx hb dX12_speed_8 (by decide) ?_
    refine lv_iconst (v := 4) hx hb dX12_speed_9 (by decide) ?_
    have hPc := hP.sub (ws' := []) [] rfl
    have hDc := hD.sub (ws' := []) [] (by decide) rfl
    have hFc := va_free (wc := []) hD hS hA [] rfl
    refine va_calli (va_runS (As := [.int angle, .int 0, .int 4]) (rest := []) ⟨hx, hb, hml, hown, hts⟩ (c_X12_in l E angle 0 4 H.size ) (va_cwS 3 hts gX12_speed_X12_in rfl rfl rfl hdS_X12_in ⟨Nat.le_of_ble_eq_true rfl, Nat.le_of_ble_eq_true rfl⟩) ⟨pcW_blind, (pcW_pre hPc hkn hDc hst hS hFc)⟩ rfl rfl hl.1 rfl (lv_room (Nat.le_of_ble_eq_true rfl)) dX12_speed_10 ⟨Nat.le_of_ble_eq_true rfl, Nat.le_of_ble_eq_true rfl⟩) hS (fun q _ h => hFc q h) hFc (fun r_6 u t H1 locs ht hvm hw_7 hB hz1 hk1 hS => ?_)
    obtain ⟨hP1, hD1⟩ := hB
    rw [ht] at hP1
    try dsimp only at hw_7
    obtain ⟨hP, hD⟩ := va_join (wr := [(h0, .inr (12, mG q i_taped i_size i_sort i_what i_at i_end i_worth i_faultKind i_faultPlace i_got i_worked i_deliveries i_isPlanned i_bestDone i_bestCost)), (q 20, .inl (E.2.1 0, 150, .inl a_speeds))]) (w1 := []) hP hD [] [0, 1] rfl rfl (by decide) (by decide) hk1 hFc hP1 hD1
    generalize H1 = H at hP hS ⊢
    have hP : va_P E.1 vwCl [(h0, .inr (12, mG q i_taped i_size i_sort i_what i_at i_end i_worth i_faultKind i_faultPlace i_got i_worked i_deliveries i_isPlanned i_bestDone i_bestCost)), (q 20, .inl (E.2.1 0, 150, .inl a_speeds))] H := hP
    have hD : va_D A [(h0, .inr (12, mG q i_taped i_size i_sort i_what i_at i_end i_worth i_faultKind i_faultPlace i_got i_worked i_deliveries i_isPlanned i_bestDone i_bestCost)), (q 20, .inl (E.2.1 0, 150, .inl a_speeds))] := hD
    refine lv_if_eq (tgt := 36) hx hb dX12_speed_13 (by decide) (fun c_8 => ?_) (fun c_8 => ?_)
    · have b_9 : inR angle 0 4 = false := bz hw_7 c_8
      refine lv_bipush (v := (-2)) hx hb dX12_speed_36 (by decide) ?_
      have hP9 := hP.sub (ws' := [(h0, .inr (12, mG q i_taped i_size i_sort i_what i_at i_end i_worth i_faultKind i_faultPlace i_got i_worked i_deliveries i_isPlanned i_bestDone i_bestCost)), (q 20, .inl (E.2.1 0, 150, .inl a_speeds))]) [0, 1] rfl
      have hD9 := hD.sub (ws' := [(h0, .inr (12, mG q i_taped i_size i_sort i_what i_at i_end i_worth i_faultKind i_faultPlace i_got i_worked i_deliveries i_isPlanned i_bestDone i_bestCost)), (q 20, .inl (E.2.1 0, 150, .inl a_speeds))]) [0, 1] (by decide) rfl
      exact W.iret (v := (-2)) hx hb hr (fun t ht hW => ⟨⟨(-2), a_speeds, rfl, Or.inr ⟨(by first | (rw [b_5, b_9]; done) | (rw [b_5, b_9]; rfl)), rfl, rfl⟩, by rw [ht]; exact hP9, hD9⟩, hS.F ht⟩) hS.2.2 dX12_speed_38
    · have b_10 : inR angle 0 4 = true := bn hw_7 c_8
      refine lv_iload_n hx hb dX12_speed_16 rfl (lv_at hl 3 rfl) ?_
      refine lv_iconst (v := 0) hx hb dX12_speed_17 (by decide) ?_
      refine lv_iconst (v := 4) hx hb dX12_speed_18 (by decide) ?_
      have hPc := hP.sub (ws' := []) [] rfl
      have hDc := hD.sub (ws' := []) [] (by decide) rfl
      have hFc := va_free (wc := []) hD hS hA [] rfl
      refine va_calli (va_runS (As := [.int band, .int 0, .int 4]) (rest := []) ⟨hx, hb, hml, hown, hts⟩ (c_X12_in l E band 0 4 H.size ) (va_cwS 3 hts gX12_speed_X12_in rfl rfl rfl hdS_X12_in ⟨Nat.le_of_ble_eq_true rfl, Nat.le_of_ble_eq_true rfl⟩) ⟨pcW_blind, (pcW_pre hPc hkn hDc hst hS hFc)⟩ rfl rfl hl.1 rfl (lv_room (Nat.le_of_ble_eq_true rfl)) dX12_speed_19 ⟨Nat.le_of_ble_eq_true rfl, Nat.le_of_ble_eq_true rfl⟩) hS (fun q _ h => hFc q h) hFc (fun r_11 u t H1 locs ht hvm hw_12 hB hz1 hk1 hS => ?_)
      obtain ⟨hP1, hD1⟩ := hB
      rw [ht] at hP1
      try dsimp only at hw_12
      obtain ⟨hP, hD⟩ := va_join (wr := [(h0, .inr (12, mG q i_taped i_size i_sort i_what i_at i_end i_worth i_faultKind i_faultPlace i_got i_worked i_deliveries i_isPlanned i_bestDone i_bestCost)), (q 20, .inl (E.2.1 0, 150, .inl a_speeds))]) (w1 := []) hP hD [] [0, 1] rfl rfl (by decide) (by decide) hk1 hFc hP1 hD1
      generalize H1 = H at hP hS ⊢
      have hP : va_P E.1 vwCl [(h0, .inr (12, mG q i_taped i_size i_sort i_what i_at i_end i_worth i_faultKind i_faultPlace i_got i_worked i_deliveries i_isPlanned i_bestDone i_bestCost)), (q 20, .inl (E.2.1 0, 150, .inl a_speeds))] H := hP
      have hD : va_D A [(h0, .inr (12, mG q i_taped i_size i_sort i_what i_at i_end i_worth i_faultKind i_faultPlace i_got i_worked i_deliveries i_isPlanned i_bestDone i_bestCost)), (q 20, .inl (E.2.1 0, 150, .inl a_speeds))] := hD
      refine lv_if_eq (tgt := 36) hx hb dX12_speed_22 (by decide) (fun c_13 => ?_) (fun c_13 => ?_)
      · have b_14 : inR band 0 4 = false := bz hw_12 c_13
        refine lv_bipush (v := (-2)) hx hb dX12_speed_36 (by decide) ?_
        have hP9 := hP.sub (ws' := [(h0, .inr (12, mG q i_taped i_size i_sort i_what i_at i_end i_worth i_faultKind i_faultPlace i_got i_worked i_deliveries i_isPlanned i_bestDone i_bestCost)), (q 20, .inl (E.2.1 0, 150, .inl a_speeds))]) [0, 1] rfl
        have hD9 := hD.sub (ws' := [(h0, .inr (12, mG q i_taped i_size i_sort i_what i_at i_end i_worth i_faultKind i_faultPlace i_got i_worked i_deliveries i_isPlanned i_bestDone i_bestCost)), (q 20, .inl (E.2.1 0, 150, .inl a_speeds))]) [0, 1] (by decide) rfl
        exact W.iret (v := (-2)) hx hb hr (fun t ht hW => ⟨⟨(-2), a_speeds, rfl, Or.inr ⟨(by first | (rw [b_5, b_10, b_14]; done) | (rw [b_5, b_10, b_14]; rfl)), rfl, rfl⟩, by rw [ht]; exact hP9, hD9⟩, hS.F ht⟩) hS.2.2 dX12_speed_38
      · have b_15 : inR band 0 4 = true := bn hw_12 c_13
        refine lv_iload hx hb dX12_speed_25 (lv_at hl 4 rfl) ?_
        refine lv_iconst (v := 0) hx hb dX12_speed_27 (by decide) ?_
        refine lv_bipush (v := 40) hx hb dX12_speed_28 (by decide) ?_
        have hPc := hP.sub (ws' := []) [] rfl
        have hDc := hD.sub (ws' := []) [] (by decide) rfl
        have hFc := va_free (wc := []) hD hS hA [] rfl
        refine va_calli (va_runS (As := [.int tenths, .int 0, .int 40]) (rest := []) ⟨hx, hb, hml, hown, hts⟩ (c_X12_in l E tenths 0 40 H.size ) (va_cwS 3 hts gX12_speed_X12_in rfl rfl rfl hdS_X12_in ⟨Nat.le_of_ble_eq_true rfl, Nat.le_of_ble_eq_true rfl⟩) ⟨pcW_blind, (pcW_pre hPc hkn hDc hst hS hFc)⟩ rfl rfl hl.1 rfl (lv_room (Nat.le_of_ble_eq_true rfl)) dX12_speed_30 ⟨Nat.le_of_ble_eq_true rfl, Nat.le_of_ble_eq_true rfl⟩) hS (fun q _ h => hFc q h) hFc (fun r_16 u t H1 locs ht hvm hw_17 hB hz1 hk1 hS => ?_)
        obtain ⟨hP1, hD1⟩ := hB
        rw [ht] at hP1
        try dsimp only at hw_17
        obtain ⟨hP, hD⟩ := va_join (wr := [(h0, .inr (12, mG q i_taped i_size i_sort i_what i_at i_end i_worth i_faultKind i_faultPlace i_got i_worked i_deliveries i_isPlanned i_bestDone i_bestCost)), (q 20, .inl (E.2.1 0, 150, .inl a_speeds))]) (w1 := []) hP hD [] [0, 1] rfl rfl (by decide) (by decide) hk1 hFc hP1 hD1
        generalize H1 = H at hP hS ⊢
        have hP : va_P E.1 vwCl [(h0, .inr (12, mG q i_taped i_size i_sort i_what i_at i_end i_worth i_faultKind i_faultPlace i_got i_worked i_deliveries i_isPlanned i_bestDone i_bestCost)), (q 20, .inl (E.2.1 0, 150, .inl a_speeds))] H := hP
        have hD : va_D A [(h0, .inr (12, mG q i_taped i_size i_sort i_what i_at i_end i_worth i_faultKind i_faultPlace i_got i_worked i_deliveries i_isPlanned i_bestDone i_bestCost)), (q 20, .inl (E.2.1 0, 150, .inl a_speeds))] := hD
        refine lv_if_ne (tgt := 39) hx hb dX12_speed_33 (by decide) (fun c_18 => ?_) (fun c_18 => ?_)
        · have b_19 : inR tenths 0 40 = true := bn hw_17 c_18
          refine lv_bipush (v := 25) hx hb dX12_speed_39 (by decide) ?_
          refine lv_iload_n hx hb dX12_speed_41 rfl (lv_at hl 1 rfl) ?_
          refine lv_imul hx hb dX12_speed_42 ?_
          refine lv_topi (fun x_20 ex_20 => ?_)
          refine lv_iconst (v := 5) hx hb dX12_speed_43 (by decide) ?_
          refine lv_iload_n hx hb dX12_speed_44 rfl (lv_at hl 2 rfl) ?_
          refine lv_imul hx hb dX12_speed_45 ?_
          refine lv_topi (fun x_21 ex_21 => ?_)
          refine lv_iadd hx hb dX12_speed_46 ?_
          refine lv_topi (fun x_22 ex_22 => ?_)
          refine lv_iload_n hx hb dX12_speed_47 rfl (lv_at hl 3 rfl) ?_
          refine lv_iadd hx hb dX12_speed_48 ?_
          refine lv_topi (fun x_23 ex_23 => ?_)
          refine lv_istore (lv' := [(5, .int x_23), (0, .ref h0), (1, .int b), (2, .int angle), (3, .int band), (4, .int tenths)]) hx hb dX12_speed_49 hl (by decide) rfl (fun ls hl => ?_)
          refine lv_aload_n hx hb dX12_speed_51 rfl (lv_at hl 1 rfl) ?_
          refine va_get (D := E.1) (ci := 12) (v := .ref (q 20)) (C := RX12) (T := TX12) (N := 59) hx hb hts inX12 hown hK hP 0 rfl rfl 20 (by decide) fl45 (fun _ h9 => h9) rfl dX12_speed_52 ?_
          refine lv_iload hx hb dX12_speed_55 (lv_at hl 0 rfl) ?_
          have hi_24 : vp_in x_23 150 := by rw [ex_23, ex_22, ex_20, ex_21]; exact ix_sp b_5 b_10 b_15
          refine va_iald hx hb hK hP 1 0 rfl rfl hi_24 dX12_speed_57 ?_
          refine lv_topi (fun x_25 ex_25 => ?_)
          refine lv_istore (lv' := [(6, .int x_25), (5, .int x_23), (0, .ref h0), (1, .int b), (2, .int angle), (3, .int band), (4, .int tenths)]) hx hb dX12_speed_58 hl (by decide) rfl (fun ls hl => ?_)
          refine lv_aload_n hx hb dX12_speed_60 rfl (lv_at hl 2 rfl) ?_
          refine va_get (D := E.1) (ci := 12) (v := .ref (q 20)) (C := RX12) (T := TX12) (N := 59) hx hb hts inX12 hown hK hP 0 rfl rfl 20 (by decide) fl45 (fun _ h9 => h9) rfl dX12_speed_61 ?_
          refine lv_iload hx hb dX12_speed_64 (lv_at hl 1 rfl) ?_
          refine lv_iload hx hb dX12_speed_66 (lv_at hl 6 rfl) ?_
          refine va_iast hx hb hK hP hD hS 1 0 rfl rfl hi_24 dX12_speed_68 (fun H locs hP hD hS => ?_)
          have hP : va_P E.1 vwCl [(h0, .inr (12, mG q i_taped i_size i_sort i_what i_at i_end i_worth i_faultKind i_faultPlace i_got i_worked i_deliveries i_isPlanned i_bestDone i_bestCost)), (q 20, .inl (E.2.1 0, 150, .inl (upd a_speeds x_23.toNatClampNeg tenths)))] H := hP
          have hD : va_D A [(h0, .inr (12, mG q i_taped i_size i_sort i_what i_at i_end i_worth i_faultKind i_faultPlace i_got i_worked i_deliveries i_isPlanned i_bestDone i_bestCost)), (q 20, .inl (E.2.1 0, 150, .inl (upd a_speeds x_23.toNatClampNeg tenths)))] := hD
          obtain ⟨f_26, ef_26⟩ : ∃ g : Nat → Int32, g = upd a_speeds x_23.toNatClampNeg tenths := ⟨_, rfl⟩
          rw [← ef_26] at hP hD
          refine lv_iload hx hb dX12_speed_69 (lv_at hl 0 rfl) ?_
          have hP9 := hP.sub (ws' := [(h0, .inr (12, mG q i_taped i_size i_sort i_what i_at i_end i_worth i_faultKind i_faultPlace i_got i_worked i_deliveries i_isPlanned i_bestDone i_bestCost)), (q 20, .inl (E.2.1 0, 150, .inl f_26))]) [0, 1] rfl
          have hD9 := hD.sub (ws' := [(h0, .inr (12, mG q i_taped i_size i_sort i_what i_at i_end i_worth i_faultKind i_faultPlace i_got i_worked i_deliveries i_isPlanned i_bestDone i_bestCost)), (q 20, .inl (E.2.1 0, 150, .inl f_26))]) [0, 1] (by decide) rfl
          exact W.iret (v := x_25) hx hb hr (fun t ht hW => ⟨⟨x_25, f_26, rfl, Or.inl ⟨(by first | (rw [b_5, b_10, b_15, b_19]; done) | (rw [b_5, b_10, b_15, b_19]; rfl)), by rw [ex_25, ex_23, ex_22, ex_20, ex_21], by rw [ef_26, ex_23, ex_22, ex_20, ex_21]⟩, by rw [ht]; exact hP9, hD9⟩, hS.F ht⟩) hS.2.2 dX12_speed_71
        · have b_27 : inR tenths 0 40 = false := bz hw_17 c_18
          refine lv_bipush (v := (-2)) hx hb dX12_speed_36 (by decide) ?_
          have hP9 := hP.sub (ws' := [(h0, .inr (12, mG q i_taped i_size i_sort i_what i_at i_end i_worth i_faultKind i_faultPlace i_got i_worked i_deliveries i_isPlanned i_bestDone i_bestCost)), (q 20, .inl (E.2.1 0, 150, .inl a_speeds))]) [0, 1] rfl
          have hD9 := hD.sub (ws' := [(h0, .inr (12, mG q i_taped i_size i_sort i_what i_at i_end i_worth i_faultKind i_faultPlace i_got i_worked i_deliveries i_isPlanned i_bestDone i_bestCost)), (q 20, .inl (E.2.1 0, 150, .inl a_speeds))]) [0, 1] (by decide) rfl
          exact W.iret (v := (-2)) hx hb hr (fun t ht hW => ⟨⟨(-2), a_speeds, rfl, Or.inr ⟨(by first | (rw [b_5, b_10, b_15, b_27]; done) | (rw [b_5, b_10, b_15, b_27]; rfl)), rfl, rfl⟩, by rw [ht]; exact hP9, hD9⟩, hS.F ht⟩) hS.2.2 dX12_speed_38
set_option maxHeartbeats 4000000 in
set_option maxRecDepth 100000 in
theorem c_X12_water (l : Launch) (E : vE) (h0 : Nat) (q : Nat → Nat) (i_taped : Int32) (i_size : Int32) (i_sort : Int32) (i_what : Int32) (i_at : Int32) (i_end : Int32) (i_worth : Int32) (i_faultKind : Int32) (i_faultPlace : Int32) (i_got : Int32) (i_worked : Int32) (i_deliveries : Int32) (i_isPlanned : Int32) (i_bestDone : Int32) (i_bestCost : Int32) (a_litres : Nat → Int32) (b : Int32) (litres : Int32) (sz : Nat) : Met l yX12_water wsX12_water ({ frames := 2, cells := 0, slots := 0, locals := 42 }) (pcW E [.ref h0, .int b, .int litres] sz [(h0, .inr (12, mG q i_taped i_size i_sort i_what i_at i_end i_worth i_faultKind i_faultPlace i_got i_worked i_deliveries i_isPlanned i_bestDone i_bestCost)), (q 21, .inl (E.2.1 0, 6, .inl a_litres))]) (va_Qi (fun (r : Int32) (b_litres : (Nat → Int32)) => True) (fun (b_litres : (Nat → Int32)) (t : State) => wB E (va_A [(h0, .inr (12, mG q i_taped i_size i_sort i_what i_at i_end i_worth i_faultKind i_faultPlace i_got i_worked i_deliveries i_isPlanned i_bestDone i_bestCost)), (q 21, .inl (E.2.1 0, 6, .inl a_litres))] sz) [(h0, .inr (12, mG q i_taped i_size i_sort i_what i_at i_end i_worth i_faultKind i_faultPlace i_got i_worked i_deliveries i_isPlanned i_bestDone i_bestCost)), (q 21, .inl (E.2.1 0, 6, .inl b_litres))] t) (va_A [(h0, .inr (12, mG q i_taped i_size i_sort i_what i_at i_end i_worth i_faultKind i_faultPlace i_got i_worked i_deliveries i_isPlanned i_bestDone i_bestCost)), (q 21, .inl (E.2.1 0, 6, .inl a_litres))] sz)) 0 0 (va_A [(h0, .inr (12, mG q i_taped i_size i_sort i_what i_at i_end i_worth i_faultKind i_faultPlace i_got i_worked i_deliveries i_isPlanned i_bestDone i_bestCost)), (q 21, .inl (E.2.1 0, 6, .inl a_litres))] sz) := by
  refine Met.ofW (cc := cX12_water) (maxL := 4) (ret := (some .int)) (by decide) rfl ?_
  intro p e s m args below meth c s₁ B hml hv
  obtain ⟨rfl, hsz, hP, hkn, hD0, hst⟩ := hv
  have hx := B.exec
  have hb := B.bytes
  have hr := B.returns
  have hts := atoms_spec (ws := wsX12_water) B.pre
  have hown : s.vm.findClass RX12 = some m.cls := findClass_of_methodNamed B.named
  have hlocks := B.notSynchronized
  subst hsz
  have hD := hD0.self (sz := s.heap.size)
  have hK := hkn.1
  have hAO := hkn.2.2.1
  generalize hAe : va_A [(h0, .inr (12, mG q i_taped i_size i_sort i_what i_at i_end i_worth i_faultKind i_faultPlace i_got i_worked i_deliveries i_isPlanned i_bestDone i_bestCost)), (q 21, .inl (E.2.1 0, 6, .inl a_litres))] s.heap.size = A at hD hst ⊢
  have hA : ∀ q : Nat, s.heap.size ≤ q → A q := fun q h => by rw [← hAe]; exact Or.inr h
  have hS : va_S A s.heap s.heap [] := va_S.rf
  have hP : va_P E.1 vwCl [(h0, .inr (12, mG q i_taped i_size i_sort i_what i_at i_end i_worth i_faultKind i_faultPlace i_got i_worked i_deliveries i_isPlanned i_bestDone i_bestCost)), (q 21, .inl (E.2.1 0, 6, .inl a_litres))] s.heap := hP
  have hl := lv_entry ([.ref h0, .int b, .int litres]) (n := 4) (Nat.le_of_ble_eq_true rfl)
  rw [lg_entry_eq]
  generalize (lg_sl ([.ref h0, .int b, .int litres]) ++ List.replicate (4 - (lg_sl ([.ref h0, .int b, .int litres])).length) Slot.unset).toArray = ls at hl ⊢
  have hl : lv_has ls 4 [(0, .ref h0), (1, .int b), (2, .int litres)] := hl
  have fl48 := hts (.fieldLink RX12 48 "BoatsHomeModel" "litres" "[I") (by first | exact List.mem_of_getElem? (i := 1) rfl | decide +kernel)
  have inX12 : ∀ w ∈ u_ws RX12 TX12 59, w ∈ wsX12_water := by first | exact fun w h9 => (List.mem_cons_of_mem _ (List.mem_append_right _ h9)) | decide +kernel
  refine lv_iload_n hx hb dX12_water_0 rfl (lv_at hl 1 rfl) ?_
  have hPc := hP.sub (ws' := []) [] rfl
  have hDc := hD.sub (ws' := []) [] (by decide) rfl
  have hFc := va_free (wc := []) hD hS hA [] rfl
  refine va_calli (va_runS (As := [.int b]) (rest := []) ⟨hx, hb, hml, hown, hts⟩ (c_X12_isBoat l E b s.heap.size ) (va_cwS 1 hts gX12_water_X12_isBoat rfl rfl rfl hdS_X12_isBoat ⟨Nat.le_of_ble_eq_true rfl, Nat.le_of_ble_eq_true rfl⟩) ⟨pcW_blind, (pcW_pre hPc hkn hDc hst hS hFc)⟩ rfl rfl hl.1 rfl (lv_room (Nat.le_of_ble_eq_true rfl)) dX12_water_1 ⟨Nat.le_of_ble_eq_true rfl, Nat.le_of_ble_eq_true rfl⟩) hS (fun q _ h => hFc q h) hFc (fun r_1 u t H1 locs ht hvm hw_2 hB hz1 hk1 hS => ?_)
  obtain ⟨hP1, hD1⟩ := hB
  rw [ht] at hP1
  try dsimp only at hw_2
  obtain ⟨hP, hD⟩ := va_join (wr := [(h0, .inr (12, mG q i_taped i_size i_sort i_what i_at i_end i_worth i_faultKind i_faultPlace i_got i_worked i_deliveries i_isPlanned i_bestDone i_bestCost)), (q 21, .inl (E.2.1 0, 6, .inl a_litres))]) (w1 := []) hP hD [] [0, 1] rfl rfl (by decide) (by decide) hk1 hFc hP1 hD1
  generalize H1 = H at hP hS ⊢
  have hP : va_P E.1 vwCl [(h0, .inr (12, mG q i_taped i_size i_sort i_what i_at i_end i_worth i_faultKind i_faultPlace i_got i_worked i_deliveries i_isPlanned i_bestDone i_bestCost)), (q 21, .inl (E.2.1 0, 6, .inl a_litres))] H := hP
  have hD : va_D A [(h0, .inr (12, mG q i_taped i_size i_sort i_what i_at i_end i_worth i_faultKind i_faultPlace i_got i_worked i_deliveries i_isPlanned i_bestDone i_bestCost)), (q 21, .inl (E.2.1 0, 6, .inl a_litres))] := hD
  refine lv_if_eq (tgt := 18) hx hb dX12_water_4 (by decide) (fun c_3 => ?_) (fun c_3 => ?_)
  · have b_4 : inR b 0 5 = false := bz hw_2 c_3
    refine lv_bipush (v := (-2)) hx hb dX12_water_18 (by decide) ?_
    have hP9 := hP.sub (ws' := [(h0, .inr (12, mG q i_taped i_size i_sort i_what i_at i_end i_worth i_faultKind i_faultPlace i_got i_worked i_deliveries i_isPlanned i_bestDone i_bestCost)), (q 21, .inl (E.2.1 0, 6, .inl a_litres))]) [0, 1] rfl
    have hD9 := hD.sub (ws' := [(h0, .inr (12, mG q i_taped i_size i_sort i_what i_at i_end i_worth i_faultKind i_faultPlace i_got i_worked i_deliveries i_isPlanned i_bestDone i_bestCost)), (q 21, .inl (E.2.1 0, 6, .inl a_litres))]) [0, 1] (by decide) rfl
    exact W.iret (v := (-2)) hx hb hr (fun t ht hW => ⟨⟨(-2), a_litres, rfl, trivial, by rw [ht]; exact hP9, hD9⟩, hS.F ht⟩) hS.2.2 dX12_water_20
  · have b_5 : inR b 0 5 = true := bn hw_2 c_3
    refine lv_iload_n hx hb dX12_water_7 rfl (lv_at hl 2 rfl) ?_
    refine lv_iconst (v := 0) hx hb dX12_water_8 (by decide) ?_
    refine lv_sipush (v := 10000) hx hb dX12_water_9 (by decide) ?_
    have hPc := hP.sub (ws' := []) [] rfl
    have hDc := hD.sub (ws' := []) [] (by decide) rfl
    have hFc := va_free (wc := []) hD hS hA [] rfl
    refine va_calli (va_runS (As := [.int litres, .int 0, .int 10000]) (rest := []) ⟨hx, hb, hml, hown, hts⟩ (c_X12_in l E litres 0 10000 H.size ) (va_cwS 3 hts gX12_water_X12_in rfl rfl rfl hdS_X12_in ⟨Nat.le_of_ble_eq_true rfl, Nat.le_of_ble_eq_true rfl⟩) ⟨pcW_blind, (pcW_pre hPc hkn hDc hst hS hFc)⟩ rfl rfl hl.1 rfl (lv_room (Nat.le_of_ble_eq_true rfl)) dX12_water_12 ⟨Nat.le_of_ble_eq_true rfl, Nat.le_of_ble_eq_true rfl⟩) hS (fun q _ h => hFc q h) hFc (fun r_6 u t H1 locs ht hvm hw_7 hB hz1 hk1 hS => ?_)
    obtain ⟨hP1, hD1⟩ := hB
    rw [ht] at hP1
    try dsimp only at hw_7
    obtain ⟨hP, hD⟩ := va_join (wr := [(h0, .inr (12, mG q i_taped i_size i_sort i_what i_at i_end i_worth i_faultKind i_faultPlace i_got i_worked i_deliveries i_isPlanned i_bestDone i_bestCost)), (q 21, .inl (E.2.1 0, 6, .inl a_litres))]) (w1 := []) hP hD [] [0, 1] rfl rfl (by decide) (by decide) hk1 hFc hP1 hD1
    generalize H1 = H at hP hS ⊢
    have hP : va_P E.1 vwCl [(h0, .inr (12, mG q i_taped i_size i_sort i_what i_at i_end i_worth i_faultKind i_faultPlace i_got i_worked i_deliveries i_isPlanned i_bestDone i_bestCost)), (q 21, .inl (E.2.1 0, 6, .inl a_litres))] H := hP
    have hD : va_D A [(h0, .inr (12, mG q i_taped i_size i_sort i_what i_at i_end i_worth i_faultKind i_faultPlace i_got i_worked i_deliveries i_isPlanned i_bestDone i_bestCost)), (q 21, .inl (E.2.1 0, 6, .inl a_litres))] := hD
    refine lv_if_ne (tgt := 21) hx hb dX12_water_15 (by decide) (fun c_8 => ?_) (fun c_8 => ?_)
    · have b_9 : inR litres 0 10000 = true := bn hw_7 c_8
      refine lv_aload_n hx hb dX12_water_21 rfl (lv_at hl 0 rfl) ?_
      refine va_get (D := E.1) (ci := 12) (v := .ref (q 21)) (C := RX12) (T := TX12) (N := 59) hx hb hts inX12 hown hK hP 0 rfl rfl 21 (by decide) fl48 (fun _ h9 => h9) rfl dX12_water_22 ?_
      refine lv_iload_n hx hb dX12_water_25 rfl (lv_at hl 1 rfl) ?_
      have hi_10 : vp_in b 6 := inR_in (by decide) b_5
      refine va_iald hx hb hK hP 1 0 rfl rfl hi_10 dX12_water_26 ?_
      refine lv_topi (fun x_11 ex_11 => ?_)
      refine lv_istore_n (lv' := [(3, .int x_11), (0, .ref h0), (1, .int b), (2, .int litres)]) hx hb dX12_water_27 rfl hl (by decide) rfl (fun ls hl => ?_)
      refine lv_aload_n hx hb dX12_water_28 rfl (lv_at hl 1 rfl) ?_
      refine va_get (D := E.1) (ci := 12) (v := .ref (q 21)) (C := RX12) (T := TX12) (N := 59) hx hb hts inX12 hown hK hP 0 rfl rfl 21 (by decide) fl48 (fun _ h9 => h9) rfl dX12_water_29 ?_
      refine lv_iload_n hx hb dX12_water_32 rfl (lv_at hl 2 rfl) ?_
      refine lv_iload_n hx hb dX12_water_33 rfl (lv_at hl 3 rfl) ?_
      refine va_iast hx hb hK hP hD hS 1 0 rfl rfl hi_10 dX12_water_34 (fun H locs hP hD hS => ?_)
      have hP : va_P E.1 vwCl [(h0, .inr (12, mG q i_taped i_size i_sort i_what i_at i_end i_worth i_faultKind i_faultPlace i_got i_worked i_deliveries i_isPlanned i_bestDone i_bestCost)), (q 21, .inl (E.2.1 0, 6, .inl (upd a_litres b.toNatClampNeg litres)))] H := hP
      have hD : va_D A [(h0, .inr (12, mG q i_taped i_size i_sort i_what i_at i_end i_worth i_faultKind i_faultPlace i_got i_worked i_deliveries i_isPlanned i_bestDone i_bestCost)), (q 21, .inl (E.2.1 0, 6, .inl (upd a_litres b.toNatClampNeg litres)))] := hD
      obtain ⟨f_12, ef_12⟩ : ∃ g : Nat → Int32, g = upd a_litres b.toNatClampNeg litres := ⟨_, rfl⟩
      rw [← ef_12] at hP hD
      refine lv_iload_n hx hb dX12_water_35 rfl (lv_at hl 0 rfl) ?_
      have hP9 := hP.sub (ws' := [(h0, .inr (12, mG q i_taped i_size i_sort i_what i_at i_end i_worth i_faultKind i_faultPlace i_got i_worked i_deliveries i_isPlanned i_bestDone i_bestCost)), (q 21, .inl (E.2.1 0, 6, .inl f_12))]) [0, 1] rfl
      have hD9 := hD.sub (ws' := [(h0, .inr (12, mG q i_taped i_size i_sort i_what i_at i_end i_worth i_faultKind i_faultPlace i_got i_worked i_deliveries i_isPlanned i_bestDone i_bestCost)), (q 21, .inl (E.2.1 0, 6, .inl f_12))]) [0, 1] (by decide) rfl
      exact W.iret (v := x_11) hx hb hr (fun t ht hW => ⟨⟨x_11, f_12, rfl, trivial, by rw [ht]; exact hP9, hD9⟩, hS.F ht⟩) hS.2.2 dX12_water_36
    · have b_13 : inR litres 0 10000 = false := bz hw_7 c_8
      refine lv_bipush (v := (-2)) hx hb dX12_water_18 (by decide) ?_
      have hP9 := hP.sub (ws' := [(h0, .inr (12, mG q i_taped i_size i_sort i_what i_at i_end i_worth i_faultKind i_faultPlace i_got i_worked i_deliveries i_isPlanned i_bestDone i_bestCost)), (q 21, .inl (E.2.1 0, 6, .inl a_litres))]) [0, 1] rfl
      have hD9 := hD.sub (ws' := [(h0, .inr (12, mG q i_taped i_size i_sort i_what i_at i_end i_worth i_faultKind i_faultPlace i_got i_worked i_deliveries i_isPlanned i_bestDone i_bestCost)), (q 21, .inl (E.2.1 0, 6, .inl a_litres))]) [0, 1] (by decide) rfl
      exact W.iret (v := (-2)) hx hb hr (fun t ht hW => ⟨⟨(-2), a_litres, rfl, trivial, by rw [ht]; exact hP9, hD9⟩, hS.F ht⟩) hS.2.2 dX12_water_20
set_option maxHeartbeats 4000000 in
set_option maxRecDepth 100000 in
theorem c_X12_lasts (l : Launch) (E : vE) (h0 : Nat) (q : Nat → Nat) (i_taped : Int32) (i_size : Int32) (i_sort : Int32) (i_what : Int32) (i_at : Int32) (i_end : Int32) (i_worth : Int32) (i_faultKind : Int32) (i_faultPlace : Int32) (i_got : Int32) (i_worked : Int32) (i_deliveries : Int32) (i_isPlanned : Int32) (i_bestDone : Int32) (i_bestCost : Int32) (a_lasts : Nat → Int32) (b : Int32) (part : Int32) (watches : Int32) (sz : Nat) : Met l yX12_lasts wsX12_lasts ({ frames := 2, cells := 0, slots := 0, locals := 42 }) (pcW E [.ref h0, .int b, .int part, .int watches] sz [(h0, .inr (12, mG q i_taped i_size i_sort i_what i_at i_end i_worth i_faultKind i_faultPlace i_got i_worked i_deliveries i_isPlanned i_bestDone i_bestCost)), (q 22, .inl (E.2.1 0, 24, .inl a_lasts))]) (va_Qi (fun (r : Int32) (b_lasts : (Nat → Int32)) => True) (fun (b_lasts : (Nat → Int32)) (t : State) => wB E (va_A [(h0, .inr (12, mG q i_taped i_size i_sort i_what i_at i_end i_worth i_faultKind i_faultPlace i_got i_worked i_deliveries i_isPlanned i_bestDone i_bestCost)), (q 22, .inl (E.2.1 0, 24, .inl a_lasts))] sz) [(h0, .inr (12, mG q i_taped i_size i_sort i_what i_at i_end i_worth i_faultKind i_faultPlace i_got i_worked i_deliveries i_isPlanned i_bestDone i_bestCost)), (q 22, .inl (E.2.1 0, 24, .inl b_lasts))] t) (va_A [(h0, .inr (12, mG q i_taped i_size i_sort i_what i_at i_end i_worth i_faultKind i_faultPlace i_got i_worked i_deliveries i_isPlanned i_bestDone i_bestCost)), (q 22, .inl (E.2.1 0, 24, .inl a_lasts))] sz)) 0 0 (va_A [(h0, .inr (12, mG q i_taped i_size i_sort i_what i_at i_end i_worth i_faultKind i_faultPlace i_got i_worked i_deliveries i_isPlanned i_bestDone i_bestCost)), (q 22, .inl (E.2.1 0, 24, .inl a_lasts))] sz) := by
  refine Met.ofW (cc := cX12_lasts) (maxL := 5) (ret := (some .int)) (by decide) rfl ?_
  intro p e s m args below meth c s₁ B hml hv
  obtain ⟨rfl, hsz, hP, hkn, hD0, hst⟩ := hv
  have hx := B.exec
  have hb := B.bytes
  have hr := B.returns
  have hts := atoms_spec (ws := wsX12_lasts) B.pre
  have hown : s.vm.findClass RX12 = some m.cls := findClass_of_methodNamed B.named
  have hlocks := B.notSynchronized
  subst hsz
  have hD := hD0.self (sz := s.heap.size)
  have hK := hkn.1
  have hAO := hkn.2.2.1
  generalize hAe : va_A [(h0, .inr (12, mG q i_taped i_size i_sort i_what i_at i_end i_worth i_faultKind i_faultPlace i_got i_worked i_deliveries i_isPlanned i_bestDone i_bestCost)), (q 22, .inl (E.2.1 0, 24, .inl a_lasts))] s.heap.size = A at hD hst ⊢
  have hA : ∀ q : Nat, s.heap.size ≤ q → A q := fun q h => by rw [← hAe]; exact Or.inr h
  have hS : va_S A s.heap s.heap [] := va_S.rf
  have hP : va_P E.1 vwCl [(h0, .inr (12, mG q i_taped i_size i_sort i_what i_at i_end i_worth i_faultKind i_faultPlace i_got i_worked i_deliveries i_isPlanned i_bestDone i_bestCost)), (q 22, .inl (E.2.1 0, 24, .inl a_lasts))] s.heap := hP
  have hl := lv_entry ([.ref h0, .int b, .int part, .int watches]) (n := 5) (Nat.le_of_ble_eq_true rfl)
  rw [lg_entry_eq]
  generalize (lg_sl ([.ref h0, .int b, .int part, .int watches]) ++ List.replicate (5 - (lg_sl ([.ref h0, .int b, .int part, .int watches])).length) Slot.unset).toArray = ls at hl ⊢
  have hl : lv_has ls 5 [(0, .ref h0), (1, .int b), (2, .int part), (3, .int watches)] := hl
  have fl51 := hts (.fieldLink RX12 51 "BoatsHomeModel" "lasts" "[I") (by first | exact List.mem_of_getElem? (i := 1) rfl | decide +kernel)
  have inX12 : ∀ w ∈ u_ws RX12 TX12 59, w ∈ wsX12_lasts := by first | exact fun w h9 => (List.mem_cons_of_mem _ (List.mem_append_right _ h9)) | decide +kernel
  refine lv_iload_n hx hb dX12_lasts_0 rfl (lv_at hl 1 rfl) ?_
  have hPc := hP.sub (ws' := []) [] rfl
  have hDc := hD.sub (ws' := []) [] (by decide) rfl
  have hFc := va_free (wc := []) hD hS hA [] rfl
  refine va_calli (va_runS (As := [.int b]) (rest := []) ⟨hx, hb, hml, hown, hts⟩ (c_X12_isBoat l E b s.heap.size ) (va_cwS 1 hts gX12_lasts_X12_isBoat rfl rfl rfl hdS_X12_isBoat ⟨Nat.le_of_ble_eq_true rfl, Nat.le_of_ble_eq_true rfl⟩) ⟨pcW_blind, (pcW_pre hPc hkn hDc hst hS hFc)⟩ rfl rfl hl.1 rfl (lv_room (Nat.le_of_ble_eq_true rfl)) dX12_lasts_1 ⟨Nat.le_of_ble_eq_true rfl, Nat.le_of_ble_eq_true rfl⟩) hS (fun q _ h => hFc q h) hFc (fun r_1 u t H1 locs ht hvm hw_2 hB hz1 hk1 hS => ?_)
  obtain ⟨hP1, hD1⟩ := hB
  rw [ht] at hP1
  try dsimp only at hw_2
  obtain ⟨hP, hD⟩ := va_join (wr := [(h0, .inr (12, mG q i_taped i_size i_sort i_what i_at i_end i_worth i_faultKind i_faultPlace i_got i_worked i_deliveries i_isPlanned i_bestDone i_bestCost)), (q 22, .inl (E.2.1 0, 24, .inl a_lasts))]) (w1 := []) hP hD [] [0, 1] rfl rfl (by decide) (by decide) hk1 hFc hP1 hD1
  generalize H1 = H at hP hS ⊢
  have hP : va_P E.1 vwCl [(h0, .inr (12, mG q i_taped i_size i_sort i_what i_at i_end i_worth i_faultKind i_faultPlace i_got i_worked i_deliveries i_isPlanned i_bestDone i_bestCost)), (q 22, .inl (E.2.1 0, 24, .inl a_lasts))] H := hP
  have hD : va_D A [(h0, .inr (12, mG q i_taped i_size i_sort i_what i_at i_end i_worth i_faultKind i_faultPlace i_got i_worked i_deliveries i_isPlanned i_bestDone i_bestCost)), (q 22, .inl (E.2.1 0, 24, .inl a_lasts))] := hD
  refine lv_if_eq (tgt := 27) hx hb dX12_lasts_4 (by decide) (fun c_3 => ?_) (fun c_3 => ?_)
  · have b_4 : inR b 0 5 = false := bz hw_2 c_3
    refine lv_bipush (v := (-2)) hx hb dX12_lasts_27 (by decide) ?_
    have hP9 := hP.sub (ws' := [(h0, .inr (12, mG q i_taped i_size i_sort i_what i_at i_end i_worth i_faultKind i_faultPlace i_got i_worked i_deliveries i_isPlanned i_bestDone i_bestCost)), (q 22, .inl (E.2.1 0, 24, .inl a_lasts))]) [0, 1] rfl
    have hD9 := hD.sub (ws' := [(h0, .inr (12, mG q i_taped i_size i_sort i_what i_at i_end i_worth i_faultKind i_faultPlace i_got i_worked i_deliveries i_isPlanned i_bestDone i_bestCost)), (q 22, .inl (E.2.1 0, 24, .inl a_lasts))]) [0, 1] (by decide) rfl
    exact W.iret (v := (-2)) hx hb hr (fun t ht hW => ⟨⟨(-2), a_lasts, rfl, trivial, by rw [ht]; exact hP9, hD9⟩, hS.F ht⟩) hS.2.2 dX12_lasts_29
  · have b_5 : inR b 0 5 = true := bn hw_2 c_3
    refine lv_iload_n hx hb dX12_lasts_7 rfl (lv_at hl 2 rfl) ?_
    refine lv_iconst (v := 0) hx hb dX12_lasts_8 (by decide) ?_
    refine lv_iconst (v := 3) hx hb dX12_lasts_9 (by decide) ?_
    have hPc := hP.sub (ws' := []) [] rfl
    have hDc := hD.sub (ws' := []) [] (by decide) rfl
    have hFc := va_free (wc := []) hD hS hA [] rfl
    refine va_calli (va_runS (As := [.int part, .int 0, .int 3]) (rest := []) ⟨hx, hb, hml, hown, hts⟩ (c_X12_in l E part 0 3 H.size ) (va_cwS 3 hts gX12_lasts_X12_in rfl rfl rfl hdS_X12_in ⟨Nat.le_of_ble_eq_true rfl, Nat.le_of_ble_eq_true rfl⟩) ⟨pcW_blind, (pcW_pre hPc hkn hDc hst hS hFc)⟩ rfl rfl hl.1 rfl (lv_room (Nat.le_of_ble_eq_true rfl)) dX12_lasts_10 ⟨Nat.le_of_ble_eq_true rfl, Nat.le_of_ble_eq_true rfl⟩) hS (fun q _ h => hFc q h) hFc (fun r_6 u t H1 locs ht hvm hw_7 hB hz1 hk1 hS => ?_)
    obtain ⟨hP1, hD1⟩ := hB
    rw [ht] at hP1
    try dsimp only at hw_7
    obtain ⟨hP, hD⟩ := va_join (wr := [(h0, .inr (12, mG q i_taped i_size i_sort i_what i_at i_end i_worth i_faultKind i_faultPlace i_got i_worked i_deliveries i_isPlanned i_bestDone i_bestCost)), (q 22, .inl (E.2.1 0, 24, .inl a_lasts))]) (w1 := []) hP hD [] [0, 1] rfl rfl (by decide) (by decide) hk1 hFc hP1 hD1
    generalize H1 = H at hP hS ⊢
    have hP : va_P E.1 vwCl [(h0, .inr (12, mG q i_taped i_size i_sort i_what i_at i_end i_worth i_faultKind i_faultPlace i_got i_worked i_deliveries i_isPlanned i_bestDone i_bestCost)), (q 22, .inl (E.2.1 0, 24, .inl a_lasts))] H := hP
    have hD : va_D A [(h0, .inr (12, mG q i_taped i_size i_sort i_what i_at i_end i_worth i_faultKind i_faultPlace i_got i_worked i_deliveries i_isPlanned i_bestDone i_bestCost)), (q 22, .inl (E.2.1 0, 24, .inl a_lasts))] := hD
    refine lv_if_eq (tgt := 27) hx hb dX12_lasts_13 (by decide) (fun c_8 => ?_) (fun c_8 => ?_)
    · have b_9 : inR part 0 3 = false := bz hw_7 c_8
      refine lv_bipush (v := (-2)) hx hb dX12_lasts_27 (by decide) ?_
      have hP9 := hP.sub (ws' := [(h0, .inr (12, mG q i_taped i_size i_sort i_what i_at i_end i_worth i_faultKind i_faultPlace i_got i_worked i_deliveries i_isPlanned i_bestDone i_bestCost)), (q 22, .inl (E.2.1 0, 24, .inl a_lasts))]) [0, 1] rfl
      have hD9 := hD.sub (ws' := [(h0, .inr (12, mG q i_taped i_size i_sort i_what i_at i_end i_worth i_faultKind i_faultPlace i_got i_worked i_deliveries i_isPlanned i_bestDone i_bestCost)), (q 22, .inl (E.2.1 0, 24, .inl a_lasts))]) [0, 1] (by decide) rfl
      exact W.iret (v := (-2)) hx hb hr (fun t ht hW => ⟨⟨(-2), a_lasts, rfl, trivial, by rw [ht]; exact hP9, hD9⟩, hS.F ht⟩) hS.2.2 dX12_lasts_29
    · have b_10 : inR part 0 3 = true := bn hw_7 c_8
      refine lv_iload_n hx hb dX12_lasts_16 rfl (lv_at hl 3 rfl) ?_
      refine lv_iconst (v := 0) hx hb dX12_lasts_17 (by decide) ?_
      refine lv_sipush (v := 10000) hx hb dX12_lasts_18 (by decide) ?_
      have hPc := hP.sub (ws' := []) [] rfl
      have hDc := hD.sub (ws' := []) [] (by decide) rfl
      have hFc := va_free (wc := []) hD hS hA [] rfl
      refine va_calli (va_runS (As := [.int watches, .int 0, .int 10000]) (rest := []) ⟨hx, hb, hml, hown, hts⟩ (c_X12_in l E watches 0 10000 H.size ) (va_cwS 3 hts gX12_lasts_X12_in rfl rfl rfl hdS_X12_in ⟨Nat.le_of_ble_eq_true rfl, Nat.le_of_ble_eq_true rfl⟩) ⟨pcW_blind, (pcW_pre hPc hkn hDc hst hS hFc)⟩ rfl rfl hl.1 rfl (lv_room (Nat.le_of_ble_eq_true rfl)) dX12_lasts_21 ⟨Nat.le_of_ble_eq_true rfl, Nat.le_of_ble_eq_true rfl⟩) hS (fun q _ h => hFc q h) hFc (fun r_11 u t H1 locs ht hvm hw_12 hB hz1 hk1 hS => ?_)
      obtain ⟨hP1, hD1⟩ := hB
      rw [ht] at hP1
      try dsimp only at hw_12
      obtain ⟨hP, hD⟩ := va_join (wr := [(h0, .inr (12, mG q i_taped i_size i_sort i_what i_at i_end i_worth i_faultKind i_faultPlace i_got i_worked i_deliveries i_isPlanned i_bestDone i_bestCost)), (q 22, .inl (E.2.1 0, 24, .inl a_lasts))]) (w1 := []) hP hD [] [0, 1] rfl rfl (by decide) (by decide) hk1 hFc hP1 hD1
      generalize H1 = H at hP hS ⊢
      have hP : va_P E.1 vwCl [(h0, .inr (12, mG q i_taped i_size i_sort i_what i_at i_end i_worth i_faultKind i_faultPlace i_got i_worked i_deliveries i_isPlanned i_bestDone i_bestCost)), (q 22, .inl (E.2.1 0, 24, .inl a_lasts))] H := hP
      have hD : va_D A [(h0, .inr (12, mG q i_taped i_size i_sort i_what i_at i_end i_worth i_faultKind i_faultPlace i_got i_worked i_deliveries i_isPlanned i_bestDone i_bestCost)), (q 22, .inl (E.2.1 0, 24, .inl a_lasts))] := hD
      refine lv_if_ne (tgt := 30) hx hb dX12_lasts_24 (by decide) (fun c_13 => ?_) (fun c_13 => ?_)
      · have b_14 : inR watches 0 10000 = true := bn hw_12 c_13
        refine lv_aload_n hx hb dX12_lasts_30 rfl (lv_at hl 0 rfl) ?_
        refine va_get (D := E.1) (ci := 12) (v := .ref (q 22)) (C := RX12) (T := TX12) (N := 59) hx hb hts inX12 hown hK hP 0 rfl rfl 22 (by decide) fl51 (fun _ h9 => h9) rfl dX12_lasts_31 ?_
        refine lv_iconst (v := 4) hx hb dX12_lasts_34 (by decide) ?_
        refine lv_iload_n hx hb dX12_lasts_35 rfl (lv_at hl 1 rfl) ?_
        refine lv_imul hx hb dX12_lasts_36 ?_
        refine lv_topi (fun x_15 ex_15 => ?_)
        refine lv_iload_n hx hb dX12_lasts_37 rfl (lv_at hl 2 rfl) ?_
        refine lv_iadd hx hb dX12_lasts_38 ?_
        refine lv_topi (fun x_16 ex_16 => ?_)
        have hi_17 : vp_in x_16 24 := by rw [ex_16, ex_15]; exact ixB b_5 (a := 5) (by decide) b_10 (b := 3) (by decide) (M := 4) rfl (by decide) (by decide)
        refine va_iald hx hb hK hP 1 0 rfl rfl hi_17 dX12_lasts_39 ?_
        refine lv_topi (fun x_18 ex_18 => ?_)
        refine lv_istore (lv' := [(4, .int x_18), (0, .ref h0), (1, .int b), (2, .int part), (3, .int watches)]) hx hb dX12_lasts_40 hl (by decide) rfl (fun ls hl => ?_)
        refine lv_aload_n hx hb dX12_lasts_42 rfl (lv_at hl 1 rfl) ?_
        refine va_get (D := E.1) (ci := 12) (v := .ref (q 22)) (C := RX12) (T := TX12) (N := 59) hx hb hts inX12 hown hK hP 0 rfl rfl 22 (by decide) fl51 (fun _ h9 => h9) rfl dX12_lasts_43 ?_
        refine lv_iconst (v := 4) hx hb dX12_lasts_46 (by decide) ?_
        refine lv_iload_n hx hb dX12_lasts_47 rfl (lv_at hl 2 rfl) ?_
        refine lv_imul hx hb dX12_lasts_48 ?_
        refine lv_topi (fun x_19 ex_19 => ?_)
        refine lv_iload_n hx hb dX12_lasts_49 rfl (lv_at hl 3 rfl) ?_
        refine lv_iadd hx hb dX12_lasts_50 ?_
        refine lv_topi (fun x_20 ex_20 => ?_)
        refine lv_iload_n hx hb dX12_lasts_51 rfl (lv_at hl 4 rfl) ?_
        have hi_21 : vp_in x_20 24 := by rw [ex_20, ex_19]; exact ixB b_5 (a := 5) (by decide) b_10 (b := 3) (by decide) (M := 4) rfl (by decide) (by decide)
        refine va_iast hx hb hK hP hD hS 1 0 rfl rfl hi_21 dX12_lasts_52 (fun H locs hP hD hS => ?_)
        have hP : va_P E.1 vwCl [(h0, .inr (12, mG q i_taped i_size i_sort i_what i_at i_end i_worth i_faultKind i_faultPlace i_got i_worked i_deliveries i_isPlanned i_bestDone i_bestCost)), (q 22, .inl (E.2.1 0, 24, .inl (upd a_lasts x_20.toNatClampNeg watches)))] H := hP
        have hD : va_D A [(h0, .inr (12, mG q i_taped i_size i_sort i_what i_at i_end i_worth i_faultKind i_faultPlace i_got i_worked i_deliveries i_isPlanned i_bestDone i_bestCost)), (q 22, .inl (E.2.1 0, 24, .inl (upd a_lasts x_20.toNatClampNeg watches)))] := hD
        obtain ⟨f_22, ef_22⟩ : ∃ g : Nat → Int32, g = upd a_lasts x_20.toNatClampNeg watches := ⟨_, rfl⟩
        rw [← ef_22] at hP hD
        refine lv_iload hx hb dX12_lasts_53 (lv_at hl 0 rfl) ?_
        refine lv_iconst (v := (-1)) hx hb dX12_lasts_55 (by decide) ?_
        refine lv_icmp_ne (tgt := 63) hx hb dX12_lasts_56 (by decide) (fun c_23 => ?_) (fun c_23 => ?_)
        · refine lv_iload hx hb dX12_lasts_63 (lv_at hl 0 rfl) ?_
          have hP9 := hP.sub (ws' := [(h0, .inr (12, mG q i_taped i_size i_sort i_what i_at i_end i_worth i_faultKind i_faultPlace i_got i_worked i_deliveries i_isPlanned i_bestDone i_bestCost)), (q 22, .inl (E.2.1 0, 24, .inl f_22))]) [0, 1] rfl
          have hD9 := hD.sub (ws' := [(h0, .inr (12, mG q i_taped i_size i_sort i_what i_at i_end i_worth i_faultKind i_faultPlace i_got i_worked i_deliveries i_isPlanned i_bestDone i_bestCost)), (q 22, .inl (E.2.1 0, 24, .inl f_22))]) [0, 1] (by decide) rfl
          exact W.iret (v := x_18) hx hb hr (fun t ht hW => ⟨⟨x_18, f_22, rfl, trivial, by rw [ht]; exact hP9, hD9⟩, hS.F ht⟩) hS.2.2 dX12_lasts_65
        · refine lv_iconst (v := 0) hx hb dX12_lasts_59 (by decide) ?_
          refine lv_goto (tgt := 65) hx hb dX12_lasts_60 (by decide) ?_
          have hP9 := hP.sub (ws' := [(h0, .inr (12, mG q i_taped i_size i_sort i_what i_at i_end i_worth i_faultKind i_faultPlace i_got i_worked i_deliveries i_isPlanned i_bestDone i_bestCost)), (q 22, .inl (E.2.1 0, 24, .inl f_22))]) [0, 1] rfl
          have hD9 := hD.sub (ws' := [(h0, .inr (12, mG q i_taped i_size i_sort i_what i_at i_end i_worth i_faultKind i_faultPlace i_got i_worked i_deliveries i_isPlanned i_bestDone i_bestCost)), (q 22, .inl (E.2.1 0, 24, .inl f_22))]) [0, 1] (by decide) rfl
          exact W.iret (v := 0) hx hb hr (fun t ht hW => ⟨⟨0, f_22, rfl, trivial, by rw [ht]; exact hP9, hD9⟩, hS.F ht⟩) hS.2.2 dX12_lasts_65
      · have b_24 : inR watches 0 10000 = false := bz hw_12 c_13
        refine lv_bipush (v := (-2)) hx hb dX12_lasts_27 (by decide) ?_
        have hP9 := hP.sub (ws' := [(h0, .inr (12, mG q i_taped i_size i_sort i_what i_at i_end i_worth i_faultKind i_faultPlace i_got i_worked i_deliveries i_isPlanned i_bestDone i_bestCost)), (q 22, .inl (E.2.1 0, 24, .inl a_lasts))]) [0, 1] rfl
        have hD9 := hD.sub (ws' := [(h0, .inr (12, mG q i_taped i_size i_sort i_what i_at i_end i_worth i_faultKind i_faultPlace i_got i_worked i_deliveries i_isPlanned i_bestDone i_bestCost)), (q 22, .inl (E.2.1 0, 24, .inl a_lasts))]) [0, 1] (by decide) rfl
        exact W.iret (v := (-2)) hx hb hr (fun t ht hW => ⟨⟨(-2), a_lasts, rfl, trivial, by rw [ht]; exact hP9, hD9⟩, hS.F ht⟩) hS.2.2 dX12_lasts_29
