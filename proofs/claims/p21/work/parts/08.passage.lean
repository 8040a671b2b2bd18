set_option maxHeartbeats 4000000 in
set_option maxRecDepth 100000 in
theorem c_X4_start (l : Launch) (E : vE) (h0 : Nat) (wy : Nat) (ps : Nat) (wl_ : Int32) (sta : Int32) (hp : Int32) (fd : Int32) (pe : Int32) (at_ : Int32) (go : Int32) (tu : Int32) (wa : Int32) (ce : Int32) (wt : Int32) (un : Int32) (fu : Int32) (dr : Int32) (fy : Nat → Int32) (a1 : Int32) (a2 : Int32) (a3 : Int32) (a4 : Int32) (sz : Nat) : Met l yX4_start wsX4_start ({ frames := 0, cells := 0, slots := 0, locals := 0 }) (pcW E [.ref h0, .int a1, .int a2, .int a3, .int a4] sz [(h0, .inr (4, [.ref wy, .int wl_, .int (nI ps), .int sta, .int hp, .int fd, .int pe, .int at_, .int go, .int tu, .int wa, .int ce, .int wt, .int un, .int fu, .int dr]))]) (va_Qv (fun (_ : Unit) => True) (fun (_ : Unit) (t : State) => wB E (va_A [(h0, .inr (4, [.ref wy, .int wl_, .int (nI ps), .int sta, .int hp, .int fd, .int pe, .int at_, .int go, .int tu, .int wa, .int ce, .int wt, .int un, .int fu, .int dr]))] sz) [(h0, .inr (4, [.ref wy, .int 0, .int 0, .int 0, .int a1, .int a3, .int a4, .int a2, .int 0, .int 0, .int 0, .int 0, .int 0, .int 0, .int (-1), .int 0]))] t) (va_A [(h0, .inr (4, [.ref wy, .int wl_, .int (nI ps), .int sta, .int hp, .int fd, .int pe, .int at_, .int go, .int tu, .int wa, .int ce, .int wt, .int un, .int fu, .int dr]))] sz)) 0 0 (va_A [(h0, .inr (4, [.ref wy, .int wl_, .int (nI ps), .int sta, .int hp, .int fd, .int pe, .int at_, .int go, .int tu, .int wa, .int ce, .int wt, .int un, .int fu, .int dr]))] sz) := by
  refine Met.ofW (cc := cX4_start) (maxL := 5) (ret := none) (by decide) rfl ?_
  intro p e s m args below meth c s₁ B hml hv
  obtain ⟨rfl, hsz, hP, hkn, hD0, hst⟩ := hv
  have hx := B.exec
  have hb := B.bytes
  have hr := B.returns
  have hts := atoms_spec (ws := wsX4_start) B.pre
  have hown : s.vm.findClass RX4 = some m.cls := findClass_of_methodNamed B.named
  have hlocks := B.notSynchronized
  subst hsz
  have hD := hD0.self (sz := s.heap.size)
  have hK := hkn.1
  have hAO := hkn.2.2.1
  generalize hAe : va_A [(h0, .inr (4, [.ref wy, .int wl_, .int (nI ps), .int sta, .int hp, .int fd, .int pe, .int at_, .int go, .int tu, .int wa, .int ce, .int wt, .int un, .int fu, .int dr]))] s.heap.size = A at hD hst ⊢
  have hA : ∀ q : Nat, s.heap.size ≤ q → A q := fun q h => by rw [← hAe]; exact Or.inr h
  have hS : va_S A s.heap s.heap [] := va_S.rf
  have hP : va_P E.1 vwCl [(h0, .inr (4, [.ref wy, .int wl_, .int (nI ps), .int sta, .int hp, .int fd, .int pe, .int at_, .int go, .int tu, .int wa, .int ce, .int wt, .int un, .int fu, .int dr]))] s.heap := hP
  have hl := lv_entry ([.ref h0, .int a1, .int a2, .int a3, .int a4]) (n := 5) (Nat.le_of_ble_eq_true rfl)
  rw [lg_entry_eq]
  generalize (lg_sl ([.ref h0, .int a1, .int a2, .int a3, .int a4]) ++ List.replicate (5 - (lg_sl ([.ref h0, .int a1, .int a2, .int a3, .int a4])).length) Slot.unset).toArray = ls at hl ⊢
  have hl : lv_has ls 5 [(0, .ref h0), (1, .int a1), (2, .int a2), (3, .int a3), (4, .int a4)] := hl
  have fl15 := hts (.fieldLink RX4 15 "BoatsHome$Passage" "wayLength" "I") (by first | exact List.mem_of_getElem? (i := 1) rfl | decide +kernel)
  have fl19 := hts (.fieldLink RX4 19 "BoatsHome$Passage" "passed" "I") (by first | exact List.mem_of_getElem? (i := 2) rfl | decide +kernel)
  have fl22 := hts (.fieldLink RX4 22 "BoatsHome$Passage" "state" "I") (by first | exact List.mem_of_getElem? (i := 3) rfl | decide +kernel)
  have fl25 := hts (.fieldLink RX4 25 "BoatsHome$Passage" "homePort" "I") (by first | exact List.mem_of_getElem? (i := 4) rfl | decide +kernel)
  have fl28 := hts (.fieldLink RX4 28 "BoatsHome$Passage" "firstDay" "I") (by first | exact List.mem_of_getElem? (i := 5) rfl | decide +kernel)
  have fl31 := hts (.fieldLink RX4 31 "BoatsHome$Passage" "people" "I") (by first | exact List.mem_of_getElem? (i := 6) rfl | decide +kernel)
  have fl34 := hts (.fieldLink RX4 34 "BoatsHome$Passage" "at" "I") (by first | exact List.mem_of_getElem? (i := 7) rfl | decide +kernel)
  have fl37 := hts (.fieldLink RX4 37 "BoatsHome$Passage" "gone" "I") (by first | exact List.mem_of_getElem? (i := 8) rfl | decide +kernel)
  have fl40 := hts (.fieldLink RX4 40 "BoatsHome$Passage" "turned" "Z") (by first | exact List.mem_of_getElem? (i := 9) rfl | decide +kernel)
  have fl44 := hts (.fieldLink RX4 44 "BoatsHome$Passage" "watches" "I") (by first | exact List.mem_of_getElem? (i := 10) rfl | decide +kernel)
  have fl47 := hts (.fieldLink RX4 47 "BoatsHome$Passage" "cells" "I") (by first | exact List.mem_of_getElem? (i := 11) rfl | decide +kernel)
  have fl50 := hts (.fieldLink RX4 50 "BoatsHome$Passage" "waited" "I") (by first | exact List.mem_of_getElem? (i := 12) rfl | decide +kernel)
  have fl53 := hts (.fieldLink RX4 53 "BoatsHome$Passage" "uncovered" "I") (by first | exact List.mem_of_getElem? (i := 13) rfl | decide +kernel)
  have fl56 := hts (.fieldLink RX4 56 "BoatsHome$Passage" "firstUncovered" "I") (by first | exact List.mem_of_getElem? (i := 14) rfl | decide +kernel)
  have fl59 := hts (.fieldLink RX4 59 "BoatsHome$Passage" "dry" "I") (by first | exact List.mem_of_getElem? (i := 15) rfl | decide +kernel)
  have inX4 : ∀ w ∈ u_ws RX4 TX4 16, w ∈ wsX4_start := by first | exact fun w h9 => (List.mem_cons_of_mem _ (List.mem_append_right _ h9)) | decide +kernel
  refine lv_aload_n hx hb dX4_start_0 rfl (lv_at hl 0 rfl) ?_
  refine lv_iconst (v := 0) hx hb dX4_start_1 (by decide) ?_
  refine va_put (D := E.1) (ci := 4) (v := .int 0) (ty := .int) (C := RX4) (T := TX4) (N := 16) hx hb hts inX4 tyX4 tyX4_ok nmX4 hown hK hP hD hS 0 rfl rfl 1 (by decide) fl15 (fun _ h9 => h9) rfl (by decide +kernel) rfl rfl (Nat.le_of_ble_eq_true rfl) dX4_start_2 (fun H locs hP hD hS => ?_)
  have hP : va_P E.1 vwCl [(h0, .inr (4, [.ref wy, .int 0, .int (nI ps), .int sta, .int hp, .int fd, .int pe, .int at_, .int go, .int tu, .int wa, .int ce, .int wt, .int un, .int fu, .int dr]))] H := hP
  have hD : va_D A [(h0, .inr (4, [.ref wy, .int 0, .int (nI ps), .int sta, .int hp, .int fd, .int pe, .int at_, .int go, .int tu, .int wa, .int ce, .int wt, .int un, .int fu, .int dr]))] := hD
  refine lv_aload_n hx hb dX4_start_5 rfl (lv_at hl 0 rfl) ?_
  refine lv_iconst (v := 0) hx hb dX4_start_6 (by decide) ?_
  refine va_put (D := E.1) (ci := 4) (v := .int 0) (ty := .int) (C := RX4) (T := TX4) (N := 16) hx hb hts inX4 tyX4 tyX4_ok nmX4 hown hK hP hD hS 0 rfl rfl 2 (by decide) fl19 (fun _ h9 => h9) rfl (by decide +kernel) rfl rfl (Nat.le_of_ble_eq_true rfl) dX4_start_7 (fun H locs hP hD hS => ?_)
  have hP : va_P E.1 vwCl [(h0, .inr (4, [.ref wy, .int 0, .int 0, .int sta, .int hp, .int fd, .int pe, .int at_, .int go, .int tu, .int wa, .int ce, .int wt, .int un, .int fu, .int dr]))] H := hP
  have hD : va_D A [(h0, .inr (4, [.ref wy, .int 0, .int 0, .int sta, .int hp, .int fd, .int pe, .int at_, .int go, .int tu, .int wa, .int ce, .int wt, .int un, .int fu, .int dr]))] := hD
  refine lv_aload_n hx hb dX4_start_10 rfl (lv_at hl 0 rfl) ?_
  refine lv_iconst (v := 0) hx hb dX4_start_11 (by decide) ?_
  refine va_put (D := E.1) (ci := 4) (v := .int 0) (ty := .int) (C := RX4) (T := TX4) (N := 16) hx hb hts inX4 tyX4 tyX4_ok nmX4 hown hK hP hD hS 0 rfl rfl 3 (by decide) fl22 (fun _ h9 => h9) rfl (by decide +kernel) rfl rfl (Nat.le_of_ble_eq_true rfl) dX4_start_12 (fun H locs hP hD hS => ?_)
  have hP : va_P E.1 vwCl [(h0, .inr (4, [.ref wy, .int 0, .int 0, .int 0, .int hp, .int fd, .int pe, .int at_, .int go, .int tu, .int wa, .int ce, .int wt, .int un, .int fu, .int dr]))] H := hP
  have hD : va_D A [(h0, .inr (4, [.ref wy, .int 0, .int 0, .int 0, .int hp, .int fd, .int pe, .int at_, .int go, .int tu, .int wa, .int ce, .int wt, .int un, .int fu, .int dr]))] := hD
  refine lv_aload_n hx hb dX4_start_15 rfl (lv_at hl 0 rfl) ?_
  refine lv_iload_n hx hb dX4_start_16 rfl (lv_at hl 1 rfl) ?_
  refine va_put (D := E.1) (ci := 4) (v := .int a1) (ty := .int) (C := RX4) (T := TX4) (N := 16) hx hb hts inX4 tyX4 tyX4_ok nmX4 hown hK hP hD hS 0 rfl rfl 4 (by decide) fl25 (fun _ h9 => h9) rfl (by decide +kernel) rfl rfl (Nat.le_of_ble_eq_true rfl) dX4_start_17 (fun H locs hP hD hS => ?_)
  have hP : va_P E.1 vwCl [(h0, .inr (4, [.ref wy, .int 0, .int 0, .int 0, .int a1, .int fd, .int pe, .int at_, .int go, .int tu, .int wa, .int ce, .int wt, .int un, .int fu, .int dr]))] H := hP
  have hD : va_D A [(h0, .inr (4, [.ref wy, .int 0, .int 0, .int 0, .int a1, .int fd, .int pe, .int at_, .int go, .int tu, .int wa, .int ce, .int wt, .int un, .int fu, .int dr]))] := hD
  refine lv_aload_n hx hb dX4_start_20 rfl (lv_at hl 0 rfl) ?_
  refine lv_iload_n hx hb dX4_start_21 rfl (lv_at hl 3 rfl) ?_
  refine va_put (D := E.1) (ci := 4) (v := .int a3) (ty := .int) (C := RX4) (T := TX4) (N := 16) hx hb hts inX4 tyX4 tyX4_ok nmX4 hown hK hP hD hS 0 rfl rfl 5 (by decide) fl28 (fun _ h9 => h9) rfl (by decide +kernel) rfl rfl (Nat.le_of_ble_eq_true rfl) dX4_start_22 (fun H locs hP hD hS => ?_)
  have hP : va_P E.1 vwCl [(h0, .inr (4, [.ref wy, .int 0, .int 0, .int 0, .int a1, .int a3, .int pe, .int at_, .int go, .int tu, .int wa, .int ce, .int wt, .int un, .int fu, .int dr]))] H := hP
  have hD : va_D A [(h0, .inr (4, [.ref wy, .int 0, .int 0, .int 0, .int a1, .int a3, .int pe, .int at_, .int go, .int tu, .int wa, .int ce, .int wt, .int un, .int fu, .int dr]))] := hD
  refine lv_aload_n hx hb dX4_start_25 rfl (lv_at hl 0 rfl) ?_
  refine lv_iload hx hb dX4_start_26 (lv_at hl 4 rfl) ?_
  refine va_put (D := E.1) (ci := 4) (v := .int a4) (ty := .int) (C := RX4) (T := TX4) (N := 16) hx hb hts inX4 tyX4 tyX4_ok nmX4 hown hK hP hD hS 0 rfl rfl 6 (by decide) fl31 (fun _ h9 => h9) rfl (by decide +kernel) rfl rfl (Nat.le_of_ble_eq_true rfl) dX4_start_28 (fun H locs hP hD hS => ?_)
  have hP : va_P E.1 vwCl [(h0, .inr (4, [.ref wy, .int 0, .int 0, .int 0, .int a1, .int a3, .int a4, .int at_, .int go, .int tu, .int wa, .int ce, .int wt, .int un, .int fu, .int dr]))] H := hP
  have hD : va_D A [(h0, .inr (4, [.ref wy, .int 0, .int 0, .int 0, .int a1, .int a3, .int a4, .int at_, .int go, .int tu, .int wa, .int ce, .int wt, .int un, .int fu, .int dr]))] := hD
  refine lv_aload_n hx hb dX4_start_31 rfl (lv_at hl 0 rfl) ?_
  refine lv_iload_n hx hb dX4_start_32 rfl (lv_at hl 2 rfl) ?_
  refine va_put (D := E.1) (ci := 4) (v := .int a2) (ty := .int) (C := RX4) (T := TX4) (N := 16) hx hb hts inX4 tyX4 tyX4_ok nmX4 hown hK hP hD hS 0 rfl rfl 7 (by decide) fl34 (fun _ h9 => h9) rfl (by decide +kernel) rfl rfl (Nat.le_of_ble_eq_true rfl) dX4_start_33 (fun H locs hP hD hS => ?_)
  have hP : va_P E.1 vwCl [(h0, .inr (4, [.ref wy, .int 0, .int 0, .int 0, .int a1, .int a3, .int a4, .int a2, .int go, .int tu, .int wa, .int ce, .int wt, .int un, .int fu, .int dr]))] H := hP
  have hD : va_D A [(h0, .inr (4, [.ref wy, .int 0, .int 0, .int 0, .int a1, .int a3, .int a4, .int a2, .int go, .int tu, .int wa, .int ce, .int wt, .int un, .int fu, .int dr]))] := hD
  refine lv_aload_n hx hb dX4_start_36 rfl (lv_at hl 0 rfl) ?_
  refine lv_iconst (v := 0) hx hb dX4_start_37 (by decide) ?_
  refine va_put (D := E.1) (ci := 4) (v := .int 0) (ty := .int) (C := RX4) (T := TX4) (N := 16) hx hb hts inX4 tyX4 tyX4_ok nmX4 hown hK hP hD hS 0 rfl rfl 8 (by decide) fl37 (fun _ h9 => h9) rfl (by decide +kernel) rfl rfl (Nat.le_of_ble_eq_true rfl) dX4_start_38 (fun H locs hP hD hS => ?_)
  have hP : va_P E.1 vwCl [(h0, .inr (4, [.ref wy, .int 0, .int 0, .int 0, .int a1, .int a3, .int a4, .int a2, .int 0, .int tu, .int wa, .int ce, .int wt, .int un, .int fu, .int dr]))] H := hP
  have hD : va_D A [(h0, .inr (4, [.ref wy, .int 0, .int 0, .int 0, .int a1, .int a3, .int a4, .int a2, .int 0, .int tu, .int wa, .int ce, .int wt, .int un, .int fu, .int dr]))] := hD
  refine lv_aload_n hx hb dX4_start_41 rfl (lv_at hl 0 rfl) ?_
  refine lv_iconst (v := 0) hx hb dX4_start_42 (by decide) ?_
  refine va_put (D := E.1) (ci := 4) (v := .int 0) (ty := .boolean) (C := RX4) (T := TX4) (N := 16) hx hb hts inX4 tyX4 tyX4_ok nmX4 hown hK hP hD hS 0 rfl rfl 9 (by decide) fl40 (fun _ h9 => h9) rfl (by decide +kernel) (by first | rfl | decide) (by first | rfl | decide) (Nat.le_of_ble_eq_true rfl) dX4_start_43 (fun H locs hP hD hS => ?_)
  have hP : va_P E.1 vwCl [(h0, .inr (4, [.ref wy, .int 0, .int 0, .int 0, .int a1, .int a3, .int a4, .int a2, .int 0, .int 0, .int wa, .int ce, .int wt, .int un, .int fu, .int dr]))] H := hP
  have hD : va_D A [(h0, .inr (4, [.ref wy, .int 0, .int 0, .int 0, .int a1, .int a3, .int a4, .int a2, .int 0, .int 0, .int wa, .int ce, .int wt, .int un, .int fu, .int dr]))] := hD
  refine lv_aload_n hx hb dX4_start_46 rfl (lv_at hl 0 rfl) ?_
  refine lv_iconst (v := 0) hx hb dX4_start_47 (by decide) ?_
  refine va_put (D := E.1) (ci := 4) (v := .int 0) (ty := .int) (C := RX4) (T := TX4) (N := 16) hx hb hts inX4 tyX4 tyX4_ok nmX4 hown hK hP hD hS 0 rfl rfl 10 (by decide) fl44 (fun _ h9 => h9) rfl (by decide +kernel) rfl rfl (Nat.le_of_ble_eq_true rfl) dX4_start_48 (fun H locs hP hD hS => ?_)
  have hP : va_P E.1 vwCl [(h0, .inr (4, [.ref wy, .int 0, .int 0, .int 0, .int a1, .int a3, .int a4, .int a2, .int 0, .int 0, .int 0, .int ce, .int wt, .int un, .int fu, .int dr]))] H := hP
  have hD : va_D A [(h0, .inr (4, [.ref wy, .int 0, .int 0, .int 0, .int a1, .int a3, .int a4, .int a2, .int 0, .int 0, .int 0, .int ce, .int wt, .int un, .int fu, .int dr]))] := hD
  refine lv_aload_n hx hb dX4_start_51 rfl (lv_at hl 0 rfl) ?_
  refine lv_iconst (v := 0) hx hb dX4_start_52 (by decide) ?_
  refine va_put (D := E.1) (ci := 4) (v := .int 0) (ty := .int) (C := RX4) (T := TX4) (N := 16) hx hb hts inX4 tyX4 tyX4_ok nmX4 hown hK hP hD hS 0 rfl rfl 11 (by decide) fl47 (fun _ h9 => h9) rfl (by decide +kernel) rfl rfl (Nat.le_of_ble_eq_true rfl) dX4_start_53 (fun H locs hP hD hS => ?_)
  have hP : va_P E.1 vwCl [(h0, .inr (4, [.ref wy, .int 0, .int 0, .int 0, .int a1, .int a3, .int a4, .int a2, .int 0, .int 0, .int 0, .int 0, .int wt, .int un, .int fu, .int dr]))] H := hP
  have hD : va_D A [(h0, .inr (4, [.ref wy, .int 0, .int 0, .int 0, .int a1, .int a3, .int a4, .int a2, .int 0, .int 0, .int 0, .int 0, .int wt, .int un, .int fu, .int dr]))] := hD
  refine lv_aload_n hx hb dX4_start_56 rfl (lv_at hl 0 rfl) ?_
  refine lv_iconst (v := 0) hx hb dX4_start_57 (by decide) ?_
  refine va_put (D := E.1) (ci := 4) (v := .int 0) (ty := .int) (C := RX4) (T := TX4) (N := 16) hx hb hts inX4 tyX4 tyX4_ok nmX4 hown hK hP hD hS 0 rfl rfl 12 (by decide) fl50 (fun _ h9 => h9) rfl (by decide +kernel) rfl rfl (Nat.le_of_ble_eq_true rfl) dX4_start_58 (fun H locs hP hD hS => ?_)
  have hP : va_P E.1 vwCl [(h0, .inr (4, [.ref wy, .int 0, .int 0, .int 0, .int a1, .int a3, .int a4, .int a2, .int 0, .int 0, .int 0, .int 0, .int 0, .int un, .int fu, .int dr]))] H := hP
  have hD : va_D A [(h0, .inr (4, [.ref wy, .int 0, .int 0, .int 0, .int a1, .int a3, .int a4, .int a2, .int 0, .int 0, .int 0, .int 0, .int 0, .int un, .int fu, .int dr]))] := hD
  refine lv_aload_n hx hb dX4_start_61 rfl (lv_at hl 0 rfl) ?_
  refine lv_iconst (v := 0) hx hb dX4_start_62 (by decide) ?_
  refine va_put (D := E.1) (ci := 4) (v := .int 0) (ty := .int) (C := RX4) (T := TX4) (N := 16) hx hb hts inX4 tyX4 tyX4_ok nmX4 hown hK hP hD hS 0 rfl rfl 13 (by decide) fl53 (fun _ h9 => h9) rfl (by decide +kernel) rfl rfl (Nat.le_of_ble_eq_true rfl) dX4_start_63 (fun H locs hP hD hS => ?_)
  have hP : va_P E.1 vwCl [(h0, .inr (4, [.ref wy, .int 0, .int 0, .int 0, .int a1, .int a3, .int a4, .int a2, .int 0, .int 0, .int 0, .int 0, .int 0, .int 0, .int fu, .int dr]))] H := hP
  have hD : va_D A [(h0, .inr (4, [.ref wy, .int 0, .int 0, .int 0, .int a1, .int a3, .int a4, .int a2, .int 0, .int 0, .int 0, .int 0, .int 0, .int 0, .int fu, .int dr]))] := hD
  refine lv_aload_n hx hb dX4_start_66 rfl (lv_at hl 0 rfl) ?_
  refine lv_iconst (v := (-1)) hx hb dX4_start_67 (by decide) ?_
  refine va_put (D := E.1) (ci := 4) (v := .int (-1)) (ty := .int) (C := RX4) (T := TX4) (N := 16) hx hb hts inX4 tyX4 tyX4_ok nmX4 hown hK hP hD hS 0 rfl rfl 14 (by decide) fl56 (fun _ h9 => h9) rfl (by decide +kernel) rfl rfl (Nat.le_of_ble_eq_true rfl) dX4_start_68 (fun H locs hP hD hS => ?_)
  have hP : va_P E.1 vwCl [(h0, .inr (4, [.ref wy, .int 0, .int 0, .int 0, .int a1, .int a3, .int a4, .int a2, .int 0, .int 0, .int 0, .int 0, .int 0, .int 0, .int (-1), .int dr]))] H := hP
  have hD : va_D A [(h0, .inr (4, [.ref wy, .int 0, .int 0, .int 0, .int a1, .int a3, .int a4, .int a2, .int 0, .int 0, .int 0, .int 0, .int 0, .int 0, .int (-1), .int dr]))] := hD
  refine lv_aload_n hx hb dX4_start_71 rfl (lv_at hl 0 rfl) ?_
  refine lv_iconst (v := 0) hx hb dX4_start_72 (by decide) ?_
  refine va_put (D := E.1) (ci := 4) (v := .int 0) (ty := .int) (C := RX4) (T := TX4) (N := 16) hx hb hts inX4 tyX4 tyX4_ok nmX4 hown hK hP hD hS 0 rfl rfl 15 (by decide) fl59 (fun _ h9 => h9) rfl (by decide +kernel) rfl rfl (Nat.le_of_ble_eq_true rfl) dX4_start_73 (fun H locs hP hD hS => ?_)
  have hP : va_P E.1 vwCl [(h0, .inr (4, [.ref wy, .int 0, .int 0, .int 0, .int a1, .int a3, .int a4, .int a2, .int 0, .int 0, .int 0, .int 0, .int 0, .int 0, .int (-1), .int 0]))] H := hP
  have hD : va_D A [(h0, .inr (4, [.ref wy, .int 0, .int 0, .int 0, .int a1, .int a3, .int a4, .int a2, .int 0, .int 0, .int 0, .int 0, .int 0, .int 0, .int (-1), .int 0]))] := hD
  have hP9 := hP.sub (ws' := [(h0, .inr (4, [.ref wy, .int 0, .int 0, .int 0, .int a1, .int a3, .int a4, .int a2, .int 0, .int 0, .int 0, .int 0, .int 0, .int 0, .int (-1), .int 0]))]) [0] rfl
  have hD9 := hD.sub (ws' := [(h0, .inr (4, [.ref wy, .int 0, .int 0, .int 0, .int a1, .int a3, .int a4, .int a2, .int 0, .int 0, .int 0, .int 0, .int 0, .int 0, .int (-1), .int 0]))]) [0] (by decide) rfl
  exact W.vret hx hb hr (fun t ht hW => ⟨⟨(), rfl, trivial, by rw [ht]; exact hP9, hD9⟩, hS.F ht⟩) hS.2.2 dX4_start_76
set_option maxHeartbeats 4000000 in
set_option maxRecDepth 100000 in
theorem c_X4_addPlace (l : Launch) (E : vE) (h0 : Nat) (wy : Nat) (ps : Nat) (wl_ : Int32) (sta : Int32) (hp : Int32) (fd : Int32) (pe : Int32) (at_ : Int32) (go : Int32) (tu : Int32) (wa : Int32) (ce : Int32) (wt : Int32) (un : Int32) (fu : Int32) (dr : Int32) (fy : Nat → Int32) (a1 : Int32) (sz : Nat) : Met l yX4_addPlace wsX4_addPlace ({ frames := 1, cells := 0, slots := 0, locals := 21 }) (pcW E [.ref h0, .int a1] sz [(h0, .inr (4, [.ref wy, .int wl_, .int (nI ps), .int sta, .int hp, .int fd, .int pe, .int at_, .int go, .int tu, .int wa, .int ce, .int wt, .int un, .int fu, .int dr])), (wy, .inl (E.2.1 0, 8, .inl fy))]) (va_Qi (fun (r : Int32) (u : Int32 × (Nat → Int32)) => match u with | (wl_2, fy2) => r = 0 ∨ r = 1) (fun (u : Int32 × (Nat → Int32)) (t : State) => match u with | (wl_2, fy2) => wB E (va_A [(h0, .inr (4, [.ref wy, .int wl_, .int (nI ps), .int sta, .int hp, .int fd, .int pe, .int at_, .int go, .int tu, .int wa, .int ce, .int wt, .int un, .int fu, .int dr])), (wy, .inl (E.2.1 0, 8, .inl fy))] sz) [(h0, .inr (4, [.ref wy, .int wl_2, .int (nI ps), .int sta, .int hp, .int fd, .int pe, .int at_, .int go, .int tu, .int wa, .int ce, .int wt, .int un, .int fu, .int dr])), (wy, .inl (E.2.1 0, 8, .inl fy2))] t) (va_A [(h0, .inr (4, [.ref wy, .int wl_, .int (nI ps), .int sta, .int hp, .int fd, .int pe, .int at_, .int go, .int tu, .int wa, .int ce, .int wt, .int un, .int fu, .int dr])), (wy, .inl (E.2.1 0, 8, .inl fy))] sz)) 0 0 (va_A [(h0, .inr (4, [.ref wy, .int wl_, .int (nI ps), .int sta, .int hp, .int fd, .int pe, .int at_, .int go, .int tu, .int wa, .int ce, .int wt, .int un, .int fu, .int dr])), (wy, .inl (E.2.1 0, 8, .inl fy))] sz) := by
  refine Met.ofW (cc := cX4_addPlace) (maxL := 2) (ret := (some .boolean)) (by decide) rfl ?_
  intro p e s m args below meth c s₁ B hml hv
  obtain ⟨rfl, hsz, hP, hkn, hD0, hst⟩ := hv
  have hx := B.exec
  have hb := B.bytes
  have hr := B.returns
  have hts := atoms_spec (ws := wsX4_addPlace) B.pre
  have hown : s.vm.findClass RX4 = some m.cls := findClass_of_methodNamed B.named
  have hlocks := B.notSynchronized
  subst hsz
  have hD := hD0.self (sz := s.heap.size)
  have hK := hkn.1
  have hAO := hkn.2.2.1
  generalize hAe : va_A [(h0, .inr (4, [.ref wy, .int wl_, .int (nI ps), .int sta, .int hp, .int fd, .int pe, .int at_, .int go, .int tu, .int wa, .int ce, .int wt, .int un, .int fu, .int dr])), (wy, .inl (E.2.1 0, 8, .inl fy))] s.heap.size = A at hD hst ⊢
  have hA : ∀ q : Nat, s.heap.size ≤ q → A q := fun q h => by rw [← hAe]; exact Or.inr h
  have hS : va_S A s.heap s.heap [] := va_S.rf
  have hP : va_P E.1 vwCl [(h0, .inr (4, [.ref wy, .int wl_, .int (nI ps), .int sta, .int hp, .int fd, .int pe, .int at_, .int go, .int tu, .int wa, .int ce, .int wt, .int un, .int fu, .int dr])), (wy, .inl (E.2.1 0, 8, .inl fy))] s.heap := hP
  have hl := lv_entry ([.ref h0, .int a1]) (n := 2) (Nat.le_of_ble_eq_true rfl)
  rw [lg_entry_eq]
  generalize (lg_sl ([.ref h0, .int a1]) ++ List.replicate (2 - (lg_sl ([.ref h0, .int a1])).length) Slot.unset).toArray = ls at hl ⊢
  have hl : lv_has ls 2 [(0, .ref h0), (1, .int a1)] := hl
  have fl9 := hts (.fieldLink RX4 9 "BoatsHome$Passage" "way" "[I") (by first | exact List.mem_of_getElem? (i := 2) rfl | decide +kernel)
  have fl15 := hts (.fieldLink RX4 15 "BoatsHome$Passage" "wayLength" "I") (by first | exact List.mem_of_getElem? (i := 1) rfl | decide +kernel)
  have inX4 : ∀ w ∈ u_ws RX4 TX4 16, w ∈ wsX4_addPlace := by first | exact fun w h9 => (List.mem_cons_of_mem _ (List.mem_append_right _ h9)) | decide +kernel
  refine lv_aload_n hx hb dX4_addPlace_0 rfl (lv_at hl 0 rfl) ?_
  refine va_get (D := E.1) (ci := 4) (v := .int wl_) (C := RX4) (T := TX4) (N := 16) hx hb hts inX4 hown hK hP 0 rfl rfl 1 (by decide) fl15 (fun _ h9 => h9) rfl dX4_addPlace_1 ?_
  refine lv_bipush (v := 8) hx hb dX4_addPlace_4 (by decide) ?_
  have hPc := hP.sub (ws' := []) [] rfl
  have hDc := hD.sub (ws' := []) [] (by decide) rfl
  have hFc := va_free (wc := []) hD hS hA [] rfl
  refine va_calli (va_runSN (As := [.int wl_, .int 8]) (rest := []) ⟨hx, hb, hml, hown, hts⟩ (c_X11_below l E wl_ 8 7 s.heap.size (lt_le (by decide))) ⟨va_cnB 2 hts gX4_addPlace_X11_below_n62 rfl rfl rfl (hkn.2.1 (.methodLinkNest RX4 62 yX11_below "BoatsHome") (by decide +kernel)) (hts (.initialized RX11) (by first | exact List.mem_of_getElem? (i := 4) rfl | decide +kernel)) (by decide +kernel) ⟨Nat.le_of_ble_eq_true rfl, Nat.le_of_ble_eq_true rfl⟩, hts (.static yX11_below) (by first | exact List.mem_of_getElem? (i := 3) rfl | decide +kernel), trivial⟩ ⟨pcW_blind, (pcW_pre hPc hkn hDc hst hS hFc)⟩ rfl rfl hl.1 rfl (lv_room (Nat.le_of_ble_eq_true rfl)) dX4_addPlace_6 ⟨Nat.le_of_ble_eq_true rfl, Nat.le_of_ble_eq_true rfl⟩) hS (fun q _ h => hFc q h) hFc (fun r_1 u t H1 locs ht hvm hw_2 hB hz1 hk1 hS => ?_)
  obtain ⟨hP1, hD1⟩ := hB
  rw [ht] at hP1
  try dsimp only at hw_2
  obtain ⟨hP, hD⟩ := va_join (wr := [(h0, .inr (4, [.ref wy, .int wl_, .int (nI ps), .int sta, .int hp, .int fd, .int pe, .int at_, .int go, .int tu, .int wa, .int ce, .int wt, .int un, .int fu, .int dr])), (wy, .inl (E.2.1 0, 8, .inl fy))]) (w1 := []) hP hD [] [0, 1] rfl rfl (by decide) (by decide) hk1 hFc hP1 hD1
  generalize H1 = H at hP hS ⊢
  have hP : va_P E.1 vwCl [(h0, .inr (4, [.ref wy, .int wl_, .int (nI ps), .int sta, .int hp, .int fd, .int pe, .int at_, .int go, .int tu, .int wa, .int ce, .int wt, .int un, .int fu, .int dr])), (wy, .inl (E.2.1 0, 8, .inl fy))] H := hP
  have hD : va_D A [(h0, .inr (4, [.ref wy, .int wl_, .int (nI ps), .int sta, .int hp, .int fd, .int pe, .int at_, .int go, .int tu, .int wa, .int ce, .int wt, .int un, .int fu, .int dr])), (wy, .inl (E.2.1 0, 8, .inl fy))] := hD
  refine lv_if_ne (tgt := 14) hx hb dX4_addPlace_9 (by decide) (fun c_3 => ?_) (fun c_3 => ?_)
  · have b_4 : inR wl_ 0 7 = true := bn hw_2 c_3
    refine lv_aload_n hx hb dX4_addPlace_14 rfl (lv_at hl 0 rfl) ?_
    refine va_get (D := E.1) (ci := 4) (v := .ref wy) (C := RX4) (T := TX4) (N := 16) hx hb hts inX4 hown hK hP 0 rfl rfl 0 (by decide) fl9 (fun _ h9 => h9) rfl dX4_addPlace_15 ?_
    refine lv_aload_n hx hb dX4_addPlace_18 rfl (lv_at hl 0 rfl) ?_
    refine va_get (D := E.1) (ci := 4) (v := .int wl_) (C := RX4) (T := TX4) (N := 16) hx hb hts inX4 hown hK hP 0 rfl rfl 1 (by decide) fl15 (fun _ h9 => h9) rfl dX4_addPlace_19 ?_
    refine lv_iload_n hx hb dX4_addPlace_22 rfl (lv_at hl 1 rfl) ?_
    have hi_5 : vp_in wl_ 8 := inR_in (by decide) b_4
    refine va_iast hx hb hK hP hD hS 1 0 rfl rfl hi_5 dX4_addPlace_23 (fun H locs hP hD hS => ?_)
    have hP : va_P E.1 vwCl [(h0, .inr (4, [.ref wy, .int wl_, .int (nI ps), .int sta, .int hp, .int fd, .int pe, .int at_, .int go, .int tu, .int wa, .int ce, .int wt, .int un, .int fu, .int dr])), (wy, .inl (E.2.1 0, 8, .inl (upd fy wl_.toNatClampNeg a1)))] H := hP
    have hD : va_D A [(h0, .inr (4, [.ref wy, .int wl_, .int (nI ps), .int sta, .int hp, .int fd, .int pe, .int at_, .int go, .int tu, .int wa, .int ce, .int wt, .int un, .int fu, .int dr])), (wy, .inl (E.2.1 0, 8, .inl (upd fy wl_.toNatClampNeg a1)))] := hD
    obtain ⟨f_6, ef_6⟩ : ∃ g : Nat → Int32, g = upd fy wl_.toNatClampNeg a1 := ⟨_, rfl⟩
    rw [← ef_6] at hP hD
    refine lv_aload_n hx hb dX4_addPlace_24 rfl (lv_at hl 0 rfl) ?_
    refine lv_dup hx hb dX4_addPlace_25 rfl ?_
    refine va_get (D := E.1) (ci := 4) (v := .int wl_) (C := RX4) (T := TX4) (N := 16) hx hb hts inX4 hown hK hP 0 rfl rfl 1 (by decide) fl15 (fun _ h9 => h9) rfl dX4_addPlace_26 ?_
    refine lv_iconst (v := 1) hx hb dX4_addPlace_29 (by decide) ?_
    refine lv_iadd hx hb dX4_addPlace_30 ?_
    refine lv_topi (fun x_7 ex_7 => ?_)
    refine va_put (D := E.1) (ci := 4) (v := .int x_7) (ty := .int) (C := RX4) (T := TX4) (N := 16) hx hb hts inX4 tyX4 tyX4_ok nmX4 hown hK hP hD hS 0 rfl rfl 1 (by decide) fl15 (fun _ h9 => h9) rfl (by decide +kernel) rfl rfl (Nat.le_of_ble_eq_true rfl) dX4_addPlace_31 (fun H locs hP hD hS => ?_)
    have hP : va_P E.1 vwCl [(h0, .inr (4, [.ref wy, .int x_7, .int (nI ps), .int sta, .int hp, .int fd, .int pe, .int at_, .int go, .int tu, .int wa, .int ce, .int wt, .int un, .int fu, .int dr])), (wy, .inl (E.2.1 0, 8, .inl f_6))] H := hP
    have hD : va_D A [(h0, .inr (4, [.ref wy, .int x_7, .int (nI ps), .int sta, .int hp, .int fd, .int pe, .int at_, .int go, .int tu, .int wa, .int ce, .int wt, .int un, .int fu, .int dr])), (wy, .inl (E.2.1 0, 8, .inl f_6))] := hD
    refine lv_iconst (v := 1) hx hb dX4_addPlace_34 (by decide) ?_
    have hP9 := hP.sub (ws' := [(h0, .inr (4, [.ref wy, .int x_7, .int (nI ps), .int sta, .int hp, .int fd, .int pe, .int at_, .int go, .int tu, .int wa, .int ce, .int wt, .int un, .int fu, .int dr])), (wy, .inl (E.2.1 0, 8, .inl f_6))]) [0, 1] rfl
    have hD9 := hD.sub (ws' := [(h0, .inr (4, [.ref wy, .int x_7, .int (nI ps), .int sta, .int hp, .int fd, .int pe, .int at_, .int go, .int tu, .int wa, .int ce, .int wt, .int un, .int fu, .int dr])), (wy, .inl (E.2.1 0, 8, .inl f_6))]) [0, 1] (by decide) rfl
    exact W.zret (v := 1) hx hb hr (by decide) (fun t ht hW => ⟨⟨1, (x_7, f_6), rfl, Or.inr rfl, by rw [ht]; exact hP9, hD9⟩, hS.F ht⟩) hS.2.2 dX4_addPlace_35
  · have b_8 : inR wl_ 0 7 = false := bz hw_2 c_3
    refine lv_iconst (v := 0) hx hb dX4_addPlace_12 (by decide) ?_
    have hP9 := hP.sub (ws' := [(h0, .inr (4, [.ref wy, .int wl_, .int (nI ps), .int sta, .int hp, .int fd, .int pe, .int at_, .int go, .int tu, .int wa, .int ce, .int wt, .int un, .int fu, .int dr])), (wy, .inl (E.2.1 0, 8, .inl fy))]) [0, 1] rfl
    have hD9 := hD.sub (ws' := [(h0, .inr (4, [.ref wy, .int wl_, .int (nI ps), .int sta, .int hp, .int fd, .int pe, .int at_, .int go, .int tu, .int wa, .int ce, .int wt, .int un, .int fu, .int dr])), (wy, .inl (E.2.1 0, 8, .inl fy))]) [0, 1] (by decide) rfl
    exact W.zret (v := 0) hx hb hr (by decide) (fun t ht hW => ⟨⟨0, (wl_, fy), rfl, Or.inl rfl, by rw [ht]; exact hP9, hD9⟩, hS.F ht⟩) hS.2.2 dX4_addPlace_13
set_option maxHeartbeats 4000000 in
set_option maxRecDepth 100000 in
theorem c_X4_placesLeft (l : Launch) (E : vE) (h0 : Nat) (wy : Nat) (ps : Nat) (wl_ : Int32) (sta : Int32) (hp : Int32) (fd : Int32) (pe : Int32) (at_ : Int32) (go : Int32) (tu : Int32) (wa : Int32) (ce : Int32) (wt : Int32) (un : Int32) (fu : Int32) (dr : Int32) (fy : Nat → Int32) (sz : Nat) : Met l yX4_placesLeft wsX4_placesLeft ({ frames := 0, cells := 0, slots := 0, locals := 0 }) (pcW E [.ref h0] sz [(h0, .inr (4, [.ref wy, .int wl_, .int (nI ps), .int sta, .int hp, .int fd, .int pe, .int at_, .int go, .int tu, .int wa, .int ce, .int wt, .int un, .int fu, .int dr]))]) (va_Qi (fun (r : Int32) (_ : Unit) => True) (fun (_ : Unit) (t : State) => wB E (va_A [(h0, .inr (4, [.ref wy, .int wl_, .int (nI ps), .int sta, .int hp, .int fd, .int pe, .int at_, .int go, .int tu, .int wa, .int ce, .int wt, .int un, .int fu, .int dr]))] sz) [(h0, .inr (4, [.ref wy, .int wl_, .int (nI ps), .int sta, .int hp, .int fd, .int pe, .int at_, .int go, .int tu, .int wa, .int ce, .int wt, .int un, .int fu, .int dr]))] t) (va_A [(h0, .inr (4, [.ref wy, .int wl_, .int (nI ps), .int sta, .int hp, .int fd, .int pe, .int at_, .int go, .int tu, .int wa, .int ce, .int wt, .int un, .int fu, .int dr]))] sz)) 0 0 (va_A [(h0, .inr (4, [.ref wy, .int wl_, .int (nI ps), .int sta, .int hp, .int fd, .int pe, .int at_, .int go, .int tu, .int wa, .int ce, .int wt, .int un, .int fu, .int dr]))] sz) := by
  refine Met.ofW (cc := cX4_placesLeft) (maxL := 1) (ret := (some .int)) (by decide) rfl ?_
  intro p e s m args below meth c s₁ B hml hv
  obtain ⟨rfl, hsz, hP, hkn, hD0, hst⟩ := hv
  have hx := B.exec
  have hb := B.bytes
  have hr := B.returns
  have hts := atoms_spec (ws := wsX4_placesLeft) B.pre
  have hown : s.vm.findClass RX4 = some m.cls := findClass_of_methodNamed B.named
  have hlocks := B.notSynchronized
  subst hsz
  have hD := hD0.self (sz := s.heap.size)
  have hK := hkn.1
  have hAO := hkn.2.2.1
  generalize hAe : va_A [(h0, .inr (4, [.ref wy, .int wl_, .int (nI ps), .int sta, .int hp, .int fd, .int pe, .int at_, .int go, .int tu, .int wa, .int ce, .int wt, .int un, .int fu, .int dr]))] s.heap.size = A at hD hst ⊢
  have hA : ∀ q : Nat, s.heap.size ≤ q → A q := fun q h => by rw [← hAe]; exact Or.inr h
  have hS : va_S A s.heap s.heap [] := va_S.rf
  have hP : va_P E.1 vwCl [(h0, .inr (4, [.ref wy, .int wl_, .int (nI ps), .int sta, .int hp, .int fd, .int pe, .int at_, .int go, .int tu, .int wa, .int ce, .int wt, .int un, .int fu, .int dr]))] s.heap := hP
  have hl := lv_entry ([.ref h0]) (n := 1) (Nat.le_of_ble_eq_true rfl)
  rw [lg_entry_eq]
  generalize (lg_sl ([.ref h0]) ++ List.replicate (1 - (lg_sl ([.ref h0])).length) Slot.unset).toArray = ls at hl ⊢
  have hl : lv_has ls 1 [(0, .ref h0)] := hl
  have fl15 := hts (.fieldLink RX4 15 "BoatsHome$Passage" "wayLength" "I") (by first | exact List.mem_of_getElem? (i := 1) rfl | decide +kernel)
  have fl19 := hts (.fieldLink RX4 19 "BoatsHome$Passage" "passed" "I") (by first | exact List.mem_of_getElem? (i := 2) rfl | decide +kernel)
  have inX4 : ∀ w ∈ u_ws RX4 TX4 16, w ∈ wsX4_placesLeft := by first | exact fun w h9 => (List.mem_cons_of_mem _ (List.mem_append_right _ h9)) | decide +kernel
  refine lv_aload_n hx hb dX4_placesLeft_0 rfl (lv_at hl 0 rfl) ?_
  refine va_get (D := E.1) (ci := 4) (v := .int wl_) (C := RX4) (T := TX4) (N := 16) hx hb hts inX4 hown hK hP 0 rfl rfl 1 (by decide) fl15 (fun _ h9 => h9) rfl dX4_placesLeft_1 ?_
  refine lv_aload_n hx hb dX4_placesLeft_4 rfl (lv_at hl 0 rfl) ?_
  refine va_get (D := E.1) (ci := 4) (v := .int (nI ps)) (C := RX4) (T := TX4) (N := 16) hx hb hts inX4 hown hK hP 0 rfl rfl 2 (by decide) fl19 (fun _ h9 => h9) rfl dX4_placesLeft_5 ?_
  refine lv_isub hx hb dX4_placesLeft_8 ?_
  refine lv_topi (fun x_1 ex_1 => ?_)
  have hP9 := hP.sub (ws' := [(h0, .inr (4, [.ref wy, .int wl_, .int (nI ps), .int sta, .int hp, .int fd, .int pe, .int at_, .int go, .int tu, .int wa, .int ce, .int wt, .int un, .int fu, .int dr]))]) [0] rfl
  have hD9 := hD.sub (ws' := [(h0, .inr (4, [.ref wy, .int wl_, .int (nI ps), .int sta, .int hp, .int fd, .int pe, .int at_, .int go, .int tu, .int wa, .int ce, .int wt, .int un, .int fu, .int dr]))]) [0] (by decide) rfl
  exact W.iret (v := x_1) hx hb hr (fun t ht hW => ⟨⟨x_1, (), rfl, trivial, by rw [ht]; exact hP9, hD9⟩, hS.F ht⟩) hS.2.2 dX4_placesLeft_9
set_option maxHeartbeats 4000000 in
set_option maxRecDepth 100000 in
theorem c_X4_begunDays (l : Launch) (E : vE) (h0 : Nat) (wy : Nat) (ps : Nat) (wl_ : Int32) (sta : Int32) (hp : Int32) (fd : Int32) (pe : Int32) (at_ : Int32) (go : Int32) (tu : Int32) (wa : Int32) (ce : Int32) (wt : Int32) (un : Int32) (fu : Int32) (dr : Int32) (fy : Nat → Int32) (sz : Nat) : Met l yX4_begunDays wsX4_begunDays ({ frames := 0, cells := 0, slots := 0, locals := 0 }) (pcW E [.ref h0] sz [(h0, .inr (4, [.ref wy, .int wl_, .int (nI ps), .int sta, .int hp, .int fd, .int pe, .int at_, .int go, .int tu, .int wa, .int ce, .int wt, .int un, .int fu, .int dr]))]) (va_Qi (fun (r : Int32) (_ : Unit) => True) (fun (_ : Unit) (t : State) => wB E (va_A [(h0, .inr (4, [.ref wy, .int wl_, .int (nI ps), .int sta, .int hp, .int fd, .int pe, .int at_, .int go, .int tu, .int wa, .int ce, .int wt, .int un, .int fu, .int dr]))] sz) [(h0, .inr (4, [.ref wy, .int wl_, .int (nI ps), .int sta, .int hp, .int fd, .int pe, .int at_, .int go, .int tu, .int wa, .int ce, .int wt, .int un, .int fu, .int dr]))] t) (va_A [(h0, .inr (4, [.ref wy, .int wl_, .int (nI ps), .int sta, .int hp, .int fd, .int pe, .int at_, .int go, .int tu, .int wa, .int ce, .int wt, .int un, .int fu, .int dr]))] sz)) 0 0 (va_A [(h0, .inr (4, [.ref wy, .int wl_, .int (nI ps), .int sta, .int hp, .int fd, .int pe, .int at_, .int go, .int tu, .int wa, .int ce, .int wt, .int un, .int fu, .int dr]))] sz) := by
  refine Met.ofW (cc := cX4_begunDays) (maxL := 1) (ret := (some .int)) (by decide) rfl ?_
  intro p e s m args below meth c s₁ B hml hv
  obtain ⟨rfl, hsz, hP, hkn, hD0, hst⟩ := hv
  have hx := B.exec
  have hb := B.bytes
  have hr := B.returns
  have hts := atoms_spec (ws := wsX4_begunDays) B.pre
  have hown : s.vm.findClass RX4 = some m.cls := findClass_of_methodNamed B.named
  have hlocks := B.notSynchronized
  subst hsz
  have hD := hD0.self (sz := s.heap.size)
  have hK := hkn.1
  have hAO := hkn.2.2.1
  generalize hAe : va_A [(h0, .inr (4, [.ref wy, .int wl_, .int (nI ps), .int sta, .int hp, .int fd, .int pe, .int at_, .int go, .int tu, .int wa, .int ce, .int wt, .int un, .int fu, .int dr]))] s.heap.size = A at hD hst ⊢
  have hA : ∀ q : Nat, s.heap.size ≤ q → A q := fun q h => by rw [← hAe]; exact Or.inr h
  have hS : va_S A s.heap s.heap [] := va_S.rf
  have hP : va_P E.1 vwCl [(h0, .inr (4, [.ref wy, .int wl_, .int (nI ps), .int sta, .int hp, .int fd, .int pe, .int at_, .int go, .int tu, .int wa, .int ce, .int wt, .int un, .int fu, .int dr]))] s.heap := hP
  have hl := lv_entry ([.ref h0]) (n := 1) (Nat.le_of_ble_eq_true rfl)
  rw [lg_entry_eq]
  generalize (lg_sl ([.ref h0]) ++ List.replicate (1 - (lg_sl ([.ref h0])).length) Slot.unset).toArray = ls at hl ⊢
  have hl : lv_has ls 1 [(0, .ref h0)] := hl
  have fl44 := hts (.fieldLink RX4 44 "BoatsHome$Passage" "watches" "I") (by first | exact List.mem_of_getElem? (i := 1) rfl | decide +kernel)
  have inX4 : ∀ w ∈ u_ws RX4 TX4 16, w ∈ wsX4_begunDays := by first | exact fun w h9 => (List.mem_cons_of_mem _ (List.mem_append_right _ h9)) | decide +kernel
  refine lv_aload_n hx hb dX4_begunDays_0 rfl (lv_at hl 0 rfl) ?_
  refine va_get (D := E.1) (ci := 4) (v := .int wa) (C := RX4) (T := TX4) (N := 16) hx hb hts inX4 hown hK hP 0 rfl rfl 10 (by decide) fl44 (fun _ h9 => h9) rfl dX4_begunDays_1 ?_
  refine lv_iconst (v := 4) hx hb dX4_begunDays_4 (by decide) ?_
  refine lv_iadd hx hb dX4_begunDays_5 ?_
  refine lv_topi (fun x_1 ex_1 => ?_)
  refine lv_iconst (v := 1) hx hb dX4_begunDays_6 (by decide) ?_
  refine lv_isub hx hb dX4_begunDays_7 ?_
  refine lv_topi (fun x_2 ex_2 => ?_)
  refine lv_iconst (v := 4) hx hb dX4_begunDays_8 (by decide) ?_
  refine lv_idiv hx hb dX4_begunDays_9 (by decide) ?_
  refine lv_topi (fun x_3 ex_3 => ?_)
  have hP9 := hP.sub (ws' := [(h0, .inr (4, [.ref wy, .int wl_, .int (nI ps), .int sta, .int hp, .int fd, .int pe, .int at_, .int go, .int tu, .int wa, .int ce, .int wt, .int un, .int fu, .int dr]))]) [0] rfl
  have hD9 := hD.sub (ws' := [(h0, .inr (4, [.ref wy, .int wl_, .int (nI ps), .int sta, .int hp, .int fd, .int pe, .int at_, .int go, .int tu, .int wa, .int ce, .int wt, .int un, .int fu, .int dr]))]) [0] (by decide) rfl
  exact W.iret (v := x_3) hx hb hr (fun t ht hW => ⟨⟨x_3, (), rfl, trivial, by rw [ht]; exact hP9, hD9⟩, hS.F ht⟩) hS.2.2 dX4_begunDays_10
set_option maxHeartbeats 4000000 in
set_option maxRecDepth 100000 in
theorem c_X4_keptWhole (l : Launch) (E : vE) (h0 : Nat) (wy : Nat) (ps : Nat) (wl_ : Int32) (sta : Int32) (hp : Int32) (fd : Int32) (pe : Int32) (at_ : Int32) (go : Int32) (tu : Int32) (wa : Int32) (ce : Int32) (wt : Int32) (un : Int32) (fu : Int32) (dr : Int32) (fy : Nat → Int32) (sz : Nat) : Met l yX4_keptWhole wsX4_keptWhole ({ frames := 0, cells := 0, slots := 0, locals := 0 }) (pcW E [.ref h0] sz [(h0, .inr (4, [.ref wy, .int wl_, .int (nI ps), .int sta, .int hp, .int fd, .int pe, .int at_, .int go, .int tu, .int wa, .int ce, .int wt, .int un, .int fu, .int dr]))]) (va_Qi (fun (r : Int32) (_ : Unit) => r = 0 ∨ r = 1) (fun (_ : Unit) (t : State) => wB E (va_A [(h0, .inr (4, [.ref wy, .int wl_, .int (nI ps), .int sta, .int hp, .int fd, .int pe, .int at_, .int go, .int tu, .int wa, .int ce, .int wt, .int un, .int fu, .int dr]))] sz) [(h0, .inr (4, [.ref wy, .int wl_, .int (nI ps), .int sta, .int hp, .int fd, .int pe, .int at_, .int go, .int tu, .int wa, .int ce, .int wt, .int un, .int fu, .int dr]))] t) (va_A [(h0, .inr (4, [.ref wy, .int wl_, .int (nI ps), .int sta, .int hp, .int fd, .int pe, .int at_, .int go, .int tu, .int wa, .int ce, .int wt, .int un, .int fu, .int dr]))] sz)) 0 0 (va_A [(h0, .inr (4, [.ref wy, .int wl_, .int (nI ps), .int sta, .int hp, .int fd, .int pe, .int at_, .int go, .int tu, .int wa, .int ce, .int wt, .int un, .int fu, .int dr]))] sz) := by
  refine Met.ofW (cc := cX4_keptWhole) (maxL := 1) (ret := (some .boolean)) (by decide) rfl ?_
  intro p e s m args below meth c s₁ B hml hv
  obtain ⟨rfl, hsz, hP, hkn, hD0, hst⟩ := hv
  have hx := B.exec
  have hb := B.bytes
  have hr := B.returns
  have hts := atoms_spec (ws := wsX4_keptWhole) B.pre
  have hown : s.vm.findClass RX4 = some m.cls := findClass_of_methodNamed B.named
  have hlocks := B.notSynchronized
  subst hsz
  have hD := hD0.self (sz := s.heap.size)
  have hK := hkn.1
  have hAO := hkn.2.2.1
  generalize hAe : va_A [(h0, .inr (4, [.ref wy, .int wl_, .int (nI ps), .int sta, .int hp, .int fd, .int pe, .int at_, .int go, .int tu, .int wa, .int ce, .int wt, .int un, .int fu, .int dr]))] s.heap.size = A at hD hst ⊢
  have hA : ∀ q : Nat, s.heap.size ≤ q → A q := fun q h => by rw [← hAe]; exact Or.inr h
  have hS : va_S A s.heap s.heap [] := va_S.rf
  have hP : va_P E.1 vwCl [(h0, .inr (4, [.ref wy, .int wl_, .int (nI ps), .int sta, .int hp, .int fd, .int pe, .int at_, .int go, .int tu, .int wa, .int ce, .int wt, .int un, .int fu, .int dr]))] s.heap := hP
  have hl := lv_entry ([.ref h0]) (n := 1) (Nat.le_of_ble_eq_true rfl)
  rw [lg_entry_eq]
  generalize (lg_sl ([.ref h0]) ++ List.replicate (1 - (lg_sl ([.ref h0])).length) Slot.unset).toArray = ls at hl ⊢
  have hl : lv_has ls 1 [(0, .ref h0)] := hl
  have fl22 := hts (.fieldLink RX4 22 "BoatsHome$Passage" "state" "I") (by first | exact List.mem_of_getElem? (i := 1) rfl | decide +kernel)
  have fl40 := hts (.fieldLink RX4 40 "BoatsHome$Passage" "turned" "Z") (by first | exact List.mem_of_getElem? (i := 2) rfl | decide +kernel)
  have inX4 : ∀ w ∈ u_ws RX4 TX4 16, w ∈ wsX4_keptWhole := by first | exact fun w h9 => (List.mem_cons_of_mem _ (List.mem_append_right _ h9)) | decide +kernel
  refine lv_aload_n hx hb dX4_keptWhole_0 rfl (lv_at hl 0 rfl) ?_
  refine va_get (D := E.1) (ci := 4) (v := .int sta) (C := RX4) (T := TX4) (N := 16) hx hb hts inX4 hown hK hP 0 rfl rfl 3 (by decide) fl22 (fun _ h9 => h9) rfl dX4_keptWhole_1 ?_
  refine lv_iconst (v := 1) hx hb dX4_keptWhole_4 (by decide) ?_
  refine lv_icmp_ne (tgt := 19) hx hb dX4_keptWhole_5 (by decide) (fun c_1 => ?_) (fun c_1 => ?_)
  · refine lv_iconst (v := 0) hx hb dX4_keptWhole_19 (by decide) ?_
    have hP9 := hP.sub (ws' := [(h0, .inr (4, [.ref wy, .int wl_, .int (nI ps), .int sta, .int hp, .int fd, .int pe, .int at_, .int go, .int tu, .int wa, .int ce, .int wt, .int un, .int fu, .int dr]))]) [0] rfl
    have hD9 := hD.sub (ws' := [(h0, .inr (4, [.ref wy, .int wl_, .int (nI ps), .int sta, .int hp, .int fd, .int pe, .int at_, .int go, .int tu, .int wa, .int ce, .int wt, .int un, .int fu, .int dr]))]) [0] (by decide) rfl
    exact W.zret (v := 0) hx hb hr (by decide) (fun t ht hW => ⟨⟨0, (), rfl, Or.inl rfl, by rw [ht]; exact hP9, hD9⟩, hS.F ht⟩) hS.2.2 dX4_keptWhole_20
  · refine lv_aload_n hx hb dX4_keptWhole_8 rfl (lv_at hl 0 rfl) ?_
    refine va_get (D := E.1) (ci := 4) (v := .int tu) (C := RX4) (T := TX4) (N := 16) hx hb hts inX4 hown hK hP 0 rfl rfl 9 (by decide) fl40 (fun _ h9 => h9) rfl dX4_keptWhole_9 ?_
    refine lv_if_ne (tgt := 19) hx hb dX4_keptWhole_12 (by decide) (fun c_2 => ?_) (fun c_2 => ?_)
    · refine lv_iconst (v := 0) hx hb dX4_keptWhole_19 (by decide) ?_
      have hP9 := hP.sub (ws' := [(h0, .inr (4, [.ref wy, .int wl_, .int (nI ps), .int sta, .int hp, .int fd, .int pe, .int at_, .int go, .int tu, .int wa, .int ce, .int wt, .int un, .int fu, .int dr]))]) [0] rfl
      have hD9 := hD.sub (ws' := [(h0, .inr (4, [.ref wy, .int wl_, .int (nI ps), .int sta, .int hp, .int fd, .int pe, .int at_, .int go, .int tu, .int wa, .int ce, .int wt, .int un, .int fu, .int dr]))]) [0] (by decide) rfl
      exact W.zret (v := 0) hx hb hr (by decide) (fun t ht hW => ⟨⟨0, (), rfl, Or.inl rfl, by rw [ht]; exact hP9, hD9⟩, hS.F ht⟩) hS.2.2 dX4_keptWhole_20
    · refine lv_iconst (v := 1) hx hb dX4_keptWhole_15 (by decide) ?_
      refine lv_goto (tgt := 20) hx hb dX4_keptWhole_16 (by decide) ?_
      have hP9 := hP.sub (ws' := [(h0, .inr (4, [.ref wy, .int wl_, .int (nI ps), .int sta, .int hp, .int fd, .int pe, .int at_, .int go, .int tu, .int wa, .int ce, .int wt, .int un, .int fu, .int dr]))]) [0] rfl
      have hD9 := hD.sub (ws' := [(h0, .inr (4, [.ref wy, .int wl_, .int (nI ps), .int sta, .int hp, .int fd, .int pe, .int at_, .int go, .int tu, .int wa, .int ce, .int wt, .int un, .int fu, .int dr]))]) [0] (by decide) rfl
      exact W.zret (v := 1) hx hb hr (by decide) (fun t ht hW => ⟨⟨1, (), rfl, Or.inr rfl, by rw [ht]; exact hP9, hD9⟩, hS.F ht⟩) hS.2.2 dX4_keptWhole_20
set_option maxHeartbeats 4000000 in
set_option maxRecDepth 100000 in
theorem c_X4_tell (l : Launch) (E : vE) (h0 : Nat) (wy : Nat) (ps : Nat) (wl_ : Int32) (sta : Int32) (hp : Int32) (fd : Int32) (pe : Int32) (at_ : Int32) (go : Int32) (tu : Int32) (wa : Int32) (ce : Int32) (wt : Int32) (un : Int32) (fu : Int32) (dr : Int32) (fy : Nat → Int32) (wh : Int32) (sz : Nat) : Met l yX4_tell wsX4_tell ({ frames := 1, cells := 0, slots := 0, locals := 20 }) (pcW E [.ref h0, .int wh] sz [(h0, .inr (4, [.ref wy, .int wl_, .int (nI ps), .int sta, .int hp, .int fd, .int pe, .int at_, .int go, .int tu, .int wa, .int ce, .int wt, .int un, .int fu, .int dr]))]) (va_Qi (fun (r : Int32) (_ : Unit) => True) (fun (_ : Unit) (t : State) => wB E (va_A [(h0, .inr (4, [.ref wy, .int wl_, .int (nI ps), .int sta, .int hp, .int fd, .int pe, .int at_, .int go, .int tu, .int wa, .int ce, .int wt, .int un, .int fu, .int dr]))] sz) [(h0, .inr (4, [.ref wy, .int wl_, .int (nI ps), .int sta, .int hp, .int fd, .int pe, .int at_, .int go, .int tu, .int wa, .int ce, .int wt, .int un, .int fu, .int dr]))] t) (va_A [(h0, .inr (4, [.ref wy, .int wl_, .int (nI ps), .int sta, .int hp, .int fd, .int pe, .int at_, .int go, .int tu, .int wa, .int ce, .int wt, .int un, .int fu, .int dr]))] sz)) 0 0 (va_A [(h0, .inr (4, [.ref wy, .int wl_, .int (nI ps), .int sta, .int hp, .int fd, .int pe, .int at_, .int go, .int tu, .int wa, .int ce, .int wt, .int un, .int fu, .int dr]))] sz) := by
  refine Met.ofW (cc := cX4_tell) (maxL := 2) (ret := (some .int)) (by decide) rfl ?_
  intro p e s m args below meth c s₁ B hml hv
  obtain ⟨rfl, hsz, hP, hkn, hD0, hst⟩ := hv
  have hx := B.exec
  have hb := B.bytes
  have hr := B.returns
  have hts := atoms_spec (ws := wsX4_tell) B.pre
  have hown : s.vm.findClass RX4 = some m.cls := findClass_of_methodNamed B.named
  have hlocks := B.notSynchronized
  subst hsz
  have hD := hD0.self (sz := s.heap.size)
  have hK := hkn.1
  have hAO := hkn.2.2.1
  generalize hAe : va_A [(h0, .inr (4, [.ref wy, .int wl_, .int (nI ps), .int sta, .int hp, .int fd, .int pe, .int at_, .int go, .int tu, .int wa, .int ce, .int wt, .int un, .int fu, .int dr]))] s.heap.size = A at hD hst ⊢
  have hA : ∀ q : Nat, s.heap.size ≤ q → A q := fun q h => by rw [← hAe]; exact Or.inr h
  have hS : va_S A s.heap s.heap [] := va_S.rf
  have hP : va_P E.1 vwCl [(h0, .inr (4, [.ref wy, .int wl_, .int (nI ps), .int sta, .int hp, .int fd, .int pe, .int at_, .int go, .int tu, .int wa, .int ce, .int wt, .int un, .int fu, .int dr]))] s.heap := hP
  have hl := lv_entry ([.ref h0, .int wh]) (n := 2) (Nat.le_of_ble_eq_true rfl)
  rw [lg_entry_eq]
  generalize (lg_sl ([.ref h0, .int wh]) ++ List.replicate (2 - (lg_sl ([.ref h0, .int wh])).length) Slot.unset).toArray = ls at hl ⊢
  have hl : lv_has ls 2 [(0, .ref h0), (1, .int wh)] := hl
  have fl22 := hts (.fieldLink RX4 22 "BoatsHome$Passage" "state" "I") (by first | exact List.mem_of_getElem? (i := 1) rfl | decide +kernel)
  have fl34 := hts (.fieldLink RX4 34 "BoatsHome$Passage" "at" "I") (by first | exact List.mem_of_getElem? (i := 3) rfl | decide +kernel)
  have fl37 := hts (.fieldLink RX4 37 "BoatsHome$Passage" "gone" "I") (by first | exact List.mem_of_getElem? (i := 4) rfl | decide +kernel)
  have fl40 := hts (.fieldLink RX4 40 "BoatsHome$Passage" "turned" "Z") (by first | exact List.mem_of_getElem? (i := 5) rfl | decide +kernel)
  have fl44 := hts (.fieldLink RX4 44 "BoatsHome$Passage" "watches" "I") (by first | exact List.mem_of_getElem? (i := 2) rfl | decide +kernel)
  have fl47 := hts (.fieldLink RX4 47 "BoatsHome$Passage" "cells" "I") (by first | exact List.mem_of_getElem? (i := 6) rfl | decide +kernel)
  have fl50 := hts (.fieldLink RX4 50 "BoatsHome$Passage" "waited" "I") (by first | exact List.mem_of_getElem? (i := 7) rfl | decide +kernel)
  have fl53 := hts (.fieldLink RX4 53 "BoatsHome$Passage" "uncovered" "I") (by first | exact List.mem_of_getElem? (i := 8) rfl | decide +kernel)
  have fl56 := hts (.fieldLink RX4 56 "BoatsHome$Passage" "firstUncovered" "I") (by first | exact List.mem_of_getElem? (i := 10) rfl | decide +kernel)
  have fl59 := hts (.fieldLink RX4 59 "BoatsHome$Passage" "dry" "I") (by first | exact List.mem_of_getElem? (i := 9) rfl | decide +kernel)
  have inX4 : ∀ w ∈ u_ws RX4 TX4 16, w ∈ wsX4_tell := by first | exact fun w h9 => (List.mem_cons_of_mem _ (List.mem_append_right _ h9)) | decide +kernel
  refine lv_iload_n hx hb dX4_tell_0 rfl (lv_at hl 1 rfl) ?_
  by_cases c_1 : wh = 0
  · refine lv_tableIn (tgt := 60) hx hb dX4_tell_1 (by rw [c_1]; decide) (by rw [c_1]; decide) (off := 59) (by rw [c_1]; rfl) (by decide) ?_
    refine lv_aload_n hx hb dX4_tell_60 rfl (lv_at hl 0 rfl) ?_
    refine va_get (D := E.1) (ci := 4) (v := .int sta) (C := RX4) (T := TX4) (N := 16) hx hb hts inX4 hown hK hP 0 rfl rfl 3 (by decide) fl22 (fun _ h9 => h9) rfl dX4_tell_61 ?_
    have hP9 := hP.sub (ws' := [(h0, .inr (4, [.ref wy, .int wl_, .int (nI ps), .int sta, .int hp, .int fd, .int pe, .int at_, .int go, .int tu, .int wa, .int ce, .int wt, .int un, .int fu, .int dr]))]) [0] rfl
    have hD9 := hD.sub (ws' := [(h0, .inr (4, [.ref wy, .int wl_, .int (nI ps), .int sta, .int hp, .int fd, .int pe, .int at_, .int go, .int tu, .int wa, .int ce, .int wt, .int un, .int fu, .int dr]))]) [0] (by decide) rfl
    exact W.iret (v := sta) hx hb hr (fun t ht hW => ⟨⟨sta, (), rfl, trivial, by rw [ht]; exact hP9, hD9⟩, hS.F ht⟩) hS.2.2 dX4_tell_64
  by_cases c_2 : wh = 1
  · refine lv_tableIn (tgt := 65) hx hb dX4_tell_1 (by rw [c_2]; decide) (by rw [c_2]; decide) (off := 64) (by rw [c_2]; rfl) (by decide) ?_
    refine lv_aload_n hx hb dX4_tell_65 rfl (lv_at hl 0 rfl) ?_
    refine va_get (D := E.1) (ci := 4) (v := .int wa) (C := RX4) (T := TX4) (N := 16) hx hb hts inX4 hown hK hP 0 rfl rfl 10 (by decide) fl44 (fun _ h9 => h9) rfl dX4_tell_66 ?_
    have hP9 := hP.sub (ws' := [(h0, .inr (4, [.ref wy, .int wl_, .int (nI ps), .int sta, .int hp, .int fd, .int pe, .int at_, .int go, .int tu, .int wa, .int ce, .int wt, .int un, .int fu, .int dr]))]) [0] rfl
    have hD9 := hD.sub (ws' := [(h0, .inr (4, [.ref wy, .int wl_, .int (nI ps), .int sta, .int hp, .int fd, .int pe, .int at_, .int go, .int tu, .int wa, .int ce, .int wt, .int un, .int fu, .int dr]))]) [0] (by decide) rfl
    exact W.iret (v := wa) hx hb hr (fun t ht hW => ⟨⟨wa, (), rfl, trivial, by rw [ht]; exact hP9, hD9⟩, hS.F ht⟩) hS.2.2 dX4_tell_69
  by_cases c_3 : wh = 2
  · refine lv_tableIn (tgt := 70) hx hb dX4_tell_1 (by rw [c_3]; decide) (by rw [c_3]; decide) (off := 69) (by rw [c_3]; rfl) (by decide) ?_
    refine lv_aload_n hx hb dX4_tell_70 rfl (lv_at hl 0 rfl) ?_
    refine va_get (D := E.1) (ci := 4) (v := .int at_) (C := RX4) (T := TX4) (N := 16) hx hb hts inX4 hown hK hP 0 rfl rfl 7 (by decide) fl34 (fun _ h9 => h9) rfl dX4_tell_71 ?_
    have hP9 := hP.sub (ws' := [(h0, .inr (4, [.ref wy, .int wl_, .int (nI ps), .int sta, .int hp, .int fd, .int pe, .int at_, .int go, .int tu, .int wa, .int ce, .int wt, .int un, .int fu, .int dr]))]) [0] rfl
    have hD9 := hD.sub (ws' := [(h0, .inr (4, [.ref wy, .int wl_, .int (nI ps), .int sta, .int hp, .int fd, .int pe, .int at_, .int go, .int tu, .int wa, .int ce, .int wt, .int un, .int fu, .int dr]))]) [0] (by decide) rfl
    exact W.iret (v := at_) hx hb hr (fun t ht hW => ⟨⟨at_, (), rfl, trivial, by rw [ht]; exact hP9, hD9⟩, hS.F ht⟩) hS.2.2 dX4_tell_74
  by_cases c_4 : wh = 3
  · refine lv_tableIn (tgt := 75) hx hb dX4_tell_1 (by rw [c_4]; decide) (by rw [c_4]; decide) (off := 74) (by rw [c_4]; rfl) (by decide) ?_
    refine lv_aload_n hx hb dX4_tell_75 rfl (lv_at hl 0 rfl) ?_
    refine va_get (D := E.1) (ci := 4) (v := .int go) (C := RX4) (T := TX4) (N := 16) hx hb hts inX4 hown hK hP 0 rfl rfl 8 (by decide) fl37 (fun _ h9 => h9) rfl dX4_tell_76 ?_
    have hP9 := hP.sub (ws' := [(h0, .inr (4, [.ref wy, .int wl_, .int (nI ps), .int sta, .int hp, .int fd, .int pe, .int at_, .int go, .int tu, .int wa, .int ce, .int wt, .int un, .int fu, .int dr]))]) [0] rfl
    have hD9 := hD.sub (ws' := [(h0, .inr (4, [.ref wy, .int wl_, .int (nI ps), .int sta, .int hp, .int fd, .int pe, .int at_, .int go, .int tu, .int wa, .int ce, .int wt, .int un, .int fu, .int dr]))]) [0] (by decide) rfl
    exact W.iret (v := go) hx hb hr (fun t ht hW => ⟨⟨go, (), rfl, trivial, by rw [ht]; exact hP9, hD9⟩, hS.F ht⟩) hS.2.2 dX4_tell_79
  by_cases c_5 : wh = 4
  · refine lv_tableIn (tgt := 80) hx hb dX4_tell_1 (by rw [c_5]; decide) (by rw [c_5]; decide) (off := 79) (by rw [c_5]; rfl) (by decide) ?_
    refine lv_aload_n hx hb dX4_tell_80 rfl (lv_at hl 0 rfl) ?_
    refine va_get (D := E.1) (ci := 4) (v := .int tu) (C := RX4) (T := TX4) (N := 16) hx hb hts inX4 hown hK hP 0 rfl rfl 9 (by decide) fl40 (fun _ h9 => h9) rfl dX4_tell_81 ?_
    refine lv_if_eq (tgt := 91) hx hb dX4_tell_84 (by decide) (fun c_6 => ?_) (fun c_6 => ?_)
    · refine lv_iconst (v := 0) hx hb dX4_tell_91 (by decide) ?_
      have hP9 := hP.sub (ws' := [(h0, .inr (4, [.ref wy, .int wl_, .int (nI ps), .int sta, .int hp, .int fd, .int pe, .int at_, .int go, .int tu, .int wa, .int ce, .int wt, .int un, .int fu, .int dr]))]) [0] rfl
      have hD9 := hD.sub (ws' := [(h0, .inr (4, [.ref wy, .int wl_, .int (nI ps), .int sta, .int hp, .int fd, .int pe, .int at_, .int go, .int tu, .int wa, .int ce, .int wt, .int un, .int fu, .int dr]))]) [0] (by decide) rfl
      exact W.iret (v := 0) hx hb hr (fun t ht hW => ⟨⟨0, (), rfl, trivial, by rw [ht]; exact hP9, hD9⟩, hS.F ht⟩) hS.2.2 dX4_tell_92
    · refine lv_iconst (v := 1) hx hb dX4_tell_87 (by decide) ?_
      refine lv_goto (tgt := 92) hx hb dX4_tell_88 (by decide) ?_
      have hP9 := hP.sub (ws' := [(h0, .inr (4, [.ref wy, .int wl_, .int (nI ps), .int sta, .int hp, .int fd, .int pe, .int at_, .int go, .int tu, .int wa, .int ce, .int wt, .int un, .int fu, .int dr]))]) [0] rfl
      have hD9 := hD.sub (ws' := [(h0, .inr (4, [.ref wy, .int wl_, .int (nI ps), .int sta, .int hp, .int fd, .int pe, .int at_, .int go, .int tu, .int wa, .int ce, .int wt, .int un, .int fu, .int dr]))]) [0] (by decide) rfl
      exact W.iret (v := 1) hx hb hr (fun t ht hW => ⟨⟨1, (), rfl, trivial, by rw [ht]; exact hP9, hD9⟩, hS.F ht⟩) hS.2.2 dX4_tell_92
  by_cases c_7 : wh = 5
  · refine lv_tableIn (tgt := 93) hx hb dX4_tell_1 (by rw [c_7]; decide) (by rw [c_7]; decide) (off := 92) (by rw [c_7]; rfl) (by decide) ?_
    refine lv_aload_n hx hb dX4_tell_93 rfl (lv_at hl 0 rfl) ?_
    refine va_get (D := E.1) (ci := 4) (v := .int ce) (C := RX4) (T := TX4) (N := 16) hx hb hts inX4 hown hK hP 0 rfl rfl 11 (by decide) fl47 (fun _ h9 => h9) rfl dX4_tell_94 ?_
    have hP9 := hP.sub (ws' := [(h0, .inr (4, [.ref wy, .int wl_, .int (nI ps), .int sta, .int hp, .int fd, .int pe, .int at_, .int go, .int tu, .int wa, .int ce, .int wt, .int un, .int fu, .int dr]))]) [0] rfl
    have hD9 := hD.sub (ws' := [(h0, .inr (4, [.ref wy, .int wl_, .int (nI ps), .int sta, .int hp, .int fd, .int pe, .int at_, .int go, .int tu, .int wa, .int ce, .int wt, .int un, .int fu, .int dr]))]) [0] (by decide) rfl
    exact W.iret (v := ce) hx hb hr (fun t ht hW => ⟨⟨ce, (), rfl, trivial, by rw [ht]; exact hP9, hD9⟩, hS.F ht⟩) hS.2.2 dX4_tell_97
  by_cases c_8 : wh = 6
  · refine lv_tableIn (tgt := 98) hx hb dX4_tell_1 (by rw [c_8]; decide) (by rw [c_8]; decide) (off := 97) (by rw [c_8]; rfl) (by decide) ?_
    refine lv_aload_n hx hb dX4_tell_98 rfl (lv_at hl 0 rfl) ?_
    refine va_get (D := E.1) (ci := 4) (v := .int wt) (C := RX4) (T := TX4) (N := 16) hx hb hts inX4 hown hK hP 0 rfl rfl 12 (by decide) fl50 (fun _ h9 => h9) rfl dX4_tell_99 ?_
    have hP9 := hP.sub (ws' := [(h0, .inr (4, [.ref wy, .int wl_, .int (nI ps), .int sta, .int hp, .int fd, .int pe, .int at_, .int go, .int tu, .int wa, .int ce, .int wt, .int un, .int fu, .int dr]))]) [0] rfl
    have hD9 := hD.sub (ws' := [(h0, .inr (4, [.ref wy, .int wl_, .int (nI ps), .int sta, .int hp, .int fd, .int pe, .int at_, .int go, .int tu, .int wa, .int ce, .int wt, .int un, .int fu, .int dr]))]) [0] (by decide) rfl
    exact W.iret (v := wt) hx hb hr (fun t ht hW => ⟨⟨wt, (), rfl, trivial, by rw [ht]; exact hP9, hD9⟩, hS.F ht⟩) hS.2.2 dX4_tell_102
  by_cases c_9 : wh = 7
  · refine lv_tableIn (tgt := 103) hx hb dX4_tell_1 (by rw [c_9]; decide) (by rw [c_9]; decide) (off := 102) (by rw [c_9]; rfl) (by decide) ?_
    refine lv_aload_n hx hb dX4_tell_103 rfl (lv_at hl 0 rfl) ?_
    refine va_get (D := E.1) (ci := 4) (v := .int un) (C := RX4) (T := TX4) (N := 16) hx hb hts inX4 hown hK hP 0 rfl rfl 13 (by decide) fl53 (fun _ h9 => h9) rfl dX4_tell_104 ?_
    have hP9 := hP.sub (ws' := [(h0, .inr (4, [.ref wy, .int wl_, .int (nI ps), .int sta, .int hp, .int fd, .int pe, .int at_, .int go, .int tu, .int wa, .int ce, .int wt, .int un, .int fu, .int dr]))]) [0] rfl
    have hD9 := hD.sub (ws' := [(h0, .inr (4, [.ref wy, .int wl_, .int (nI ps), .int sta, .int hp, .int fd, .int pe, .int at_, .int go, .int tu, .int wa, .int ce, .int wt, .int un, .int fu, .int dr]))]) [0] (by decide) rfl
    exact W.iret (v := un) hx hb hr (fun t ht hW => ⟨⟨un, (), rfl, trivial, by rw [ht]; exact hP9, hD9⟩, hS.F ht⟩) hS.2.2 dX4_tell_107
  by_cases c_10 : wh = 8
  · refine lv_tableIn (tgt := 108) hx hb dX4_tell_1 (by rw [c_10]; decide) (by rw [c_10]; decide) (off := 107) (by rw [c_10]; rfl) (by decide) ?_
    refine lv_aload_n hx hb dX4_tell_108 rfl (lv_at hl 0 rfl) ?_
    refine va_get (D := E.1) (ci := 4) (v := .int dr) (C := RX4) (T := TX4) (N := 16) hx hb hts inX4 hown hK hP 0 rfl rfl 15 (by decide) fl59 (fun _ h9 => h9) rfl dX4_tell_109 ?_
    have hP9 := hP.sub (ws' := [(h0, .inr (4, [.ref wy, .int wl_, .int (nI ps), .int sta, .int hp, .int fd, .int pe, .int at_, .int go, .int tu, .int wa, .int ce, .int wt, .int un, .int fu, .int dr]))]) [0] rfl
    have hD9 := hD.sub (ws' := [(h0, .inr (4, [.ref wy, .int wl_, .int (nI ps), .int sta, .int hp, .int fd, .int pe, .int at_, .int go, .int tu, .int wa, .int ce, .int wt, .int un, .int fu, .int dr]))]) [0] (by decide) rfl
    exact W.iret (v := dr) hx hb hr (fun t ht hW => ⟨⟨dr, (), rfl, trivial, by rw [ht]; exact hP9, hD9⟩, hS.F ht⟩) hS.2.2 dX4_tell_112
  by_cases c_11 : wh = 9
  · refine lv_tableIn (tgt := 113) hx hb dX4_tell_1 (by rw [c_11]; decide) (by rw [c_11]; decide) (off := 112) (by rw [c_11]; rfl) (by decide) ?_
    refine lv_aload_n hx hb dX4_tell_113 rfl (lv_at hl 0 rfl) ?_
    have hPc := hP.sub (ws' := [(h0, .inr (4, [.ref wy, .int wl_, .int (nI ps), .int sta, .int hp, .int fd, .int pe, .int at_, .int go, .int tu, .int wa, .int ce, .int wt, .int un, .int fu, .int dr]))]) [0] rfl
    have hDc := hD.sub (ws' := [(h0, .inr (4, [.ref wy, .int wl_, .int (nI ps), .int sta, .int hp, .int fd, .int pe, .int at_, .int go, .int tu, .int wa, .int ce, .int wt, .int un, .int fu, .int dr]))]) [0] (by decide) rfl
    have hFc := va_free (wc := [(h0, .inr (4, [.ref wy, .int wl_, .int (nI ps), .int sta, .int hp, .int fd, .int pe, .int at_, .int go, .int tu, .int wa, .int ce, .int wt, .int un, .int fu, .int dr]))]) hD hS hA [0] rfl
    refine va_calli (va_runV (As := []) (rest := []) ⟨hx, hb, hml, hown, hts⟩ (c_X4_placesLeft l E h0 wy ps wl_ sta hp fd pe at_ go tu wa ce wt un fu dr (fun _ => 0) s.heap.size ) (cwV 0 hts gX4_tell_X4_placesLeft rfl rfl rfl hdV_X4_placesLeft ⟨Nat.le_of_ble_eq_true rfl, Nat.le_of_ble_eq_true rfl⟩) ⟨pcW_blind, va_recv hK hPc (ci := 4) (q0 := 0) rfl rfl, (pcW_pre hPc hkn hDc hst hS hFc)⟩ rfl rfl hl.1 rfl (lv_room (Nat.le_of_ble_eq_true rfl)) dX4_tell_114 ⟨Nat.le_of_ble_eq_true rfl, Nat.le_of_ble_eq_true rfl⟩) hS (fun q _ h => hFc q h) hFc (fun r_12 u t H1 locs ht hvm hw_13 hB hz1 hk1 hS => ?_)
    obtain ⟨hP1, hD1⟩ := hB
    rw [ht] at hP1
    try dsimp only at hw_13
    obtain ⟨hP, hD⟩ := va_join (wr := []) (w1 := [(h0, .inr (4, [.ref wy, .int wl_, .int (nI ps), .int sta, .int hp, .int fd, .int pe, .int at_, .int go, .int tu, .int wa, .int ce, .int wt, .int un, .int fu, .int dr]))]) hP hD [0] [] rfl rfl (by decide) (by decide) hk1 hFc hP1 hD1
    generalize H1 = H at hP hS ⊢
    have hP : va_P E.1 vwCl [(h0, .inr (4, [.ref wy, .int wl_, .int (nI ps), .int sta, .int hp, .int fd, .int pe, .int at_, .int go, .int tu, .int wa, .int ce, .int wt, .int un, .int fu, .int dr]))] H := hP
    have hD : va_D A [(h0, .inr (4, [.ref wy, .int wl_, .int (nI ps), .int sta, .int hp, .int fd, .int pe, .int at_, .int go, .int tu, .int wa, .int ce, .int wt, .int un, .int fu, .int dr]))] := hD
    have hP9 := hP.sub (ws' := [(h0, .inr (4, [.ref wy, .int wl_, .int (nI ps), .int sta, .int hp, .int fd, .int pe, .int at_, .int go, .int tu, .int wa, .int ce, .int wt, .int un, .int fu, .int dr]))]) [0] rfl
    have hD9 := hD.sub (ws' := [(h0, .inr (4, [.ref wy, .int wl_, .int (nI ps), .int sta, .int hp, .int fd, .int pe, .int at_, .int go, .int tu, .int wa, .int ce, .int wt, .int un, .int fu, .int dr]))]) [0] (by decide) rfl
    exact W.iret (v := r_12) hx hb hr (fun t ht hW => ⟨⟨r_12, (), rfl, trivial, by rw [ht]; exact hP9, hD9⟩, hS.F ht⟩) hS.2.2 dX4_tell_117
  by_cases c_14 : wh = 10
  · refine lv_tableIn (tgt := 118) hx hb dX4_tell_1 (by rw [c_14]; decide) (by rw [c_14]; decide) (off := 117) (by rw [c_14]; rfl) (by decide) ?_
    refine lv_aload_n hx hb dX4_tell_118 rfl (lv_at hl 0 rfl) ?_
    refine va_get (D := E.1) (ci := 4) (v := .int fu) (C := RX4) (T := TX4) (N := 16) hx hb hts inX4 hown hK hP 0 rfl rfl 14 (by decide) fl56 (fun _ h9 => h9) rfl dX4_tell_119 ?_
    have hP9 := hP.sub (ws' := [(h0, .inr (4, [.ref wy, .int wl_, .int (nI ps), .int sta, .int hp, .int fd, .int pe, .int at_, .int go, .int tu, .int wa, .int ce, .int wt, .int un, .int fu, .int dr]))]) [0] rfl
    have hD9 := hD.sub (ws' := [(h0, .inr (4, [.ref wy, .int wl_, .int (nI ps), .int sta, .int hp, .int fd, .int pe, .int at_, .int go, .int tu, .int wa, .int ce, .int wt, .int un, .int fu, .int dr]))]) [0] (by decide) rfl
    exact W.iret (v := fu) hx hb hr (fun t ht hW => ⟨⟨fu, (), rfl, trivial, by rw [ht]; exact hP9, hD9⟩, hS.F ht⟩) hS.2.2 dX4_tell_122
  refine lv_tableOut (tgt := 123) hx hb dX4_tell_1 (by have g0 : ¬ wh.toInt = 0 := fun h => c_1 (Int32.toInt_inj.mp (h.trans (by decide))); have g1 : ¬ wh.toInt = 1 := fun h => c_2 (Int32.toInt_inj.mp (h.trans (by decide))); have g2 : ¬ wh.toInt = 2 := fun h => c_3 (Int32.toInt_inj.mp (h.trans (by decide))); have g3 : ¬ wh.toInt = 3 := fun h => c_4 (Int32.toInt_inj.mp (h.trans (by decide))); have g4 : ¬ wh.toInt = 4 := fun h => c_5 (Int32.toInt_inj.mp (h.trans (by decide))); have g5 : ¬ wh.toInt = 5 := fun h => c_7 (Int32.toInt_inj.mp (h.trans (by decide))); have g6 : ¬ wh.toInt = 6 := fun h => c_8 (Int32.toInt_inj.mp (h.trans (by decide))); have g7 : ¬ wh.toInt = 7 := fun h => c_9 (Int32.toInt_inj.mp (h.trans (by decide))); have g8 : ¬ wh.toInt = 8 := fun h => c_10 (Int32.toInt_inj.mp (h.trans (by decide))); have g9 : ¬ wh.toInt = 9 := fun h => c_11 (Int32.toInt_inj.mp (h.trans (by decide))); have g10 : ¬ wh.toInt = 10 := fun h => c_14 (Int32.toInt_inj.mp (h.trans (by decide))); omega) (by decide) ?_
  refine lv_bipush (v := (-9)) hx hb dX4_tell_123 (by decide) ?_
  have hP9 := hP.sub (ws' := [(h0, .inr (4, [.ref wy, .int wl_, .int (nI ps), .int sta, .int hp, .int fd, .int pe, .int at_, .int go, .int tu, .int wa, .int ce, .int wt, .int un, .int fu, .int dr]))]) [0] rfl
  have hD9 := hD.sub (ws' := [(h0, .inr (4, [.ref wy, .int wl_, .int (nI ps), .int sta, .int hp, .int fd, .int pe, .int at_, .int go, .int tu, .int wa, .int ce, .int wt, .int un, .int fu, .int dr]))]) [0] (by decide) rfl
  exact W.iret (v := (-9)) hx hb hr (fun t ht hW => ⟨⟨(-9), (), rfl, trivial, by rw [ht]; exact hP9, hD9⟩, hS.F ht⟩) hS.2.2 dX4_tell_125
set_option maxHeartbeats 4000000 in
set_option maxRecDepth 100000 in
theorem c_X4_noteCover (l : Launch) (E : vE) (h0 : Nat) (wy : Nat) (ps : Nat) (wl_ : Int32) (sta : Int32) (hp : Int32) (fd : Int32) (pe : Int32) (at_ : Int32) (go : Int32) (tu : Int32) (wa : Int32) (ce : Int32) (wt : Int32) (un : Int32) (fu : Int32) (dr : Int32) (fy : Nat → Int32) (cv : Int32) (sz : Nat) : Met l yX4_noteCover wsX4_noteCover ({ frames := 0, cells := 0, slots := 0, locals := 0 }) (pcW E [.ref h0, .int cv] sz [(h0, .inr (4, [.ref wy, .int wl_, .int (nI ps), .int sta, .int hp, .int fd, .int pe, .int at_, .int go, .int tu, .int wa, .int ce, .int wt, .int un, .int fu, .int dr]))]) (va_Qv (fun (u : Int32 × Int32) => match u with | (un2, fu2) => True) (fun (u : Int32 × Int32) (t : State) => match u with | (un2, fu2) => wB E (va_A [(h0, .inr (4, [.ref wy, .int wl_, .int (nI ps), .int sta, .int hp, .int fd, .int pe, .int at_, .int go, .int tu, .int wa, .int ce, .int wt, .int un, .int fu, .int dr]))] sz) [(h0, .inr (4, [.ref wy, .int wl_, .int (nI ps), .int sta, .int hp, .int fd, .int pe, .int at_, .int go, .int tu, .int wa, .int ce, .int wt, .int un2, .int fu2, .int dr]))] t) (va_A [(h0, .inr (4, [.ref wy, .int wl_, .int (nI ps), .int sta, .int hp, .int fd, .int pe, .int at_, .int go, .int tu, .int wa, .int ce, .int wt, .int un, .int fu, .int dr]))] sz)) 0 0 (va_A [(h0, .inr (4, [.ref wy, .int wl_, .int (nI ps), .int sta, .int hp, .int fd, .int pe, .int at_, .int go, .int tu, .int wa, .int ce, .int wt, .int un, .int fu, .int dr]))] sz) := by
  refine Met.ofW (cc := cX4_noteCover) (maxL := 2) (ret := none) (by decide) rfl ?_
  intro p e s m args below meth c s₁ B hml hv
  obtain ⟨rfl, hsz, hP, hkn, hD0, hst⟩ := hv
  have hx := B.exec
  have hb := B.bytes
  have hr := B.returns
  have hts := atoms_spec (ws := wsX4_noteCover) B.pre
  have hown : s.vm.findClass RX4 = some m.cls := findClass_of_methodNamed B.named
  have hlocks := B.notSynchronized
  subst hsz
  have hD := hD0.self (sz := s.heap.size)
  have hK := hkn.1
  have hAO := hkn.2.2.1
  generalize hAe : va_A [(h0, .inr (4, [.ref wy, .int wl_, .int (nI ps), .int sta, .int hp, .int fd, .int pe, .int at_, .int go, .int tu, .int wa, .int ce, .int wt, .int un, .int fu, .int dr]))] s.heap.size = A at hD hst ⊢
  have hA : ∀ q : Nat, s.heap.size ≤ q → A q := fun q h => by rw [← hAe]; exact Or.inr h
  have hS : va_S A s.heap s.heap [] := va_S.rf
  have hP : va_P E.1 vwCl [(h0, .inr (4, [.ref wy, .int wl_, .int (nI ps), .int sta, .int hp, .int fd, .int pe, .int at_, .int go, .int tu, .int wa, .int ce, .int wt, .int un, .int fu, .int dr]))] s.heap := hP
  have hl := lv_entry ([.ref h0, .int cv]) (n := 2) (Nat.le_of_ble_eq_true rfl)
  rw [lg_entry_eq]
  generalize (lg_sl ([.ref h0, .int cv]) ++ List.replicate (2 - (lg_sl ([.ref h0, .int cv])).length) Slot.unset).toArray = ls at hl ⊢
  have hl : lv_has ls 2 [(0, .ref h0), (1, .int cv)] := hl
  have fl44 := hts (.fieldLink RX4 44 "BoatsHome$Passage" "watches" "I") (by first | exact List.mem_of_getElem? (i := 3) rfl | decide +kernel)
  have fl53 := hts (.fieldLink RX4 53 "BoatsHome$Passage" "uncovered" "I") (by first | exact List.mem_of_getElem? (i := 1) rfl | decide +kernel)
  have fl56 := hts (.fieldLink RX4 56 "BoatsHome$Passage" "firstUncovered" "I") (by first | exact List.mem_of_getElem? (i := 2) rfl | decide +kernel)
  have inX4 : ∀ w ∈ u_ws RX4 TX4 16, w ∈ wsX4_noteCover := by first | exact fun w h9 => (List.mem_cons_of_mem _ (List.mem_append_right _ h9)) | decide +kernel
  refine lv_iload_n hx hb dX4_noteCover_0 rfl (lv_at hl 1 rfl) ?_
  refine lv_if_ne (tgt := 37) hx hb dX4_noteCover_1 (by decide) (fun c_1 => ?_) (fun c_1 => ?_)
  · have hP9 := hP.sub (ws' := [(h0, .inr (4, [.ref wy, .int wl_, .int (nI ps), .int sta, .int hp, .int fd, .int pe, .int at_, .int go, .int tu, .int wa, .int ce, .int wt, .int un, .int fu, .int dr]))]) [0] rfl
    have hD9 := hD.sub (ws' := [(h0, .inr (4, [.ref wy, .int wl_, .int (nI ps), .int sta, .int hp, .int fd, .int pe, .int at_, .int go, .int tu, .int wa, .int ce, .int wt, .int un, .int fu, .int dr]))]) [0] (by decide) rfl
    exact W.vret hx hb hr (fun t ht hW => ⟨⟨(un, fu), rfl, trivial, by rw [ht]; exact hP9, hD9⟩, hS.F ht⟩) hS.2.2 dX4_noteCover_37
  · refine lv_aload_n hx hb dX4_noteCover_4 rfl (lv_at hl 0 rfl) ?_
    refine lv_dup hx hb dX4_noteCover_5 rfl ?_
    refine va_get (D := E.1) (ci := 4) (v := .int un) (C := RX4) (T := TX4) (N := 16) hx hb hts inX4 hown hK hP 0 rfl rfl 13 (by decide) fl53 (fun _ h9 => h9) rfl dX4_noteCover_6 ?_
    refine lv_iconst (v := 1) hx hb dX4_noteCover_9 (by decide) ?_
    refine lv_iadd hx hb dX4_noteCover_10 ?_
    refine lv_topi (fun x_2 ex_2 => ?_)
    refine va_put (D := E.1) (ci := 4) (v := .int x_2) (ty := .int) (C := RX4) (T := TX4) (N := 16) hx hb hts inX4 tyX4 tyX4_ok nmX4 hown hK hP hD hS 0 rfl rfl 13 (by decide) fl53 (fun _ h9 => h9) rfl (by decide +kernel) rfl rfl (Nat.le_of_ble_eq_true rfl) dX4_noteCover_11 (fun H locs hP hD hS => ?_)
    have hP : va_P E.1 vwCl [(h0, .inr (4, [.ref wy, .int wl_, .int (nI ps), .int sta, .int hp, .int fd, .int pe, .int at_, .int go, .int tu, .int wa, .int ce, .int wt, .int x_2, .int fu, .int dr]))] H := hP
    have hD : va_D A [(h0, .inr (4, [.ref wy, .int wl_, .int (nI ps), .int sta, .int hp, .int fd, .int pe, .int at_, .int go, .int tu, .int wa, .int ce, .int wt, .int x_2, .int fu, .int dr]))] := hD
    refine lv_aload_n hx hb dX4_noteCover_14 rfl (lv_at hl 0 rfl) ?_
    refine lv_aload_n hx hb dX4_noteCover_15 rfl (lv_at hl 0 rfl) ?_
    refine va_get (D := E.1) (ci := 4) (v := .int fu) (C := RX4) (T := TX4) (N := 16) hx hb hts inX4 hown hK hP 0 rfl rfl 14 (by decide) fl56 (fun _ h9 => h9) rfl dX4_noteCover_16 ?_
    refine lv_iconst (v := (-1)) hx hb dX4_noteCover_19 (by decide) ?_
    refine lv_icmp_ne (tgt := 30) hx hb dX4_noteCover_20 (by decide) (fun c_3 => ?_) (fun c_3 => ?_)
    · refine lv_aload_n hx hb dX4_noteCover_30 rfl (lv_at hl 0 rfl) ?_
      refine va_get (D := E.1) (ci := 4) (v := .int fu) (C := RX4) (T := TX4) (N := 16) hx hb hts inX4 hown hK hP 0 rfl rfl 14 (by decide) fl56 (fun _ h9 => h9) rfl dX4_noteCover_31 ?_
      refine va_put (D := E.1) (ci := 4) (v := .int fu) (ty := .int) (C := RX4) (T := TX4) (N := 16) hx hb hts inX4 tyX4 tyX4_ok nmX4 hown hK hP hD hS 0 rfl rfl 14 (by decide) fl56 (fun _ h9 => h9) rfl (by decide +kernel) rfl rfl (Nat.le_of_ble_eq_true rfl) dX4_noteCover_34 (fun H locs hP hD hS => ?_)
      have hP : va_P E.1 vwCl [(h0, .inr (4, [.ref wy, .int wl_, .int (nI ps), .int sta, .int hp, .int fd, .int pe, .int at_, .int go, .int tu, .int wa, .int ce, .int wt, .int x_2, .int fu, .int dr]))] H := hP
      have hD : va_D A [(h0, .inr (4, [.ref wy, .int wl_, .int (nI ps), .int sta, .int hp, .int fd, .int pe, .int at_, .int go, .int tu, .int wa, .int ce, .int wt, .int x_2, .int fu, .int dr]))] := hD
      have hP9 := hP.sub (ws' := [(h0, .inr (4, [.ref wy, .int wl_, .int (nI ps), .int sta, .int hp, .int fd, .int pe, .int at_, .int go, .int tu, .int wa, .int ce, .int wt, .int x_2, .int fu, .int dr]))]) [0] rfl
      have hD9 := hD.sub (ws' := [(h0, .inr (4, [.ref wy, .int wl_, .int (nI ps), .int sta, .int hp, .int fd, .int pe, .int at_, .int go, .int tu, .int wa, .int ce, .int wt, .int x_2, .int fu, .int dr]))]) [0] (by decide) rfl
      exact W.vret hx hb hr (fun t ht hW => ⟨⟨(x_2, fu), rfl, trivial, by rw [ht]; exact hP9, hD9⟩, hS.F ht⟩) hS.2.2 dX4_noteCover_37
    · refine lv_aload_n hx hb dX4_noteCover_23 rfl (lv_at hl 0 rfl) ?_
      refine va_get (D := E.1) (ci := 4) (v := .int wa) (C := RX4) (T := TX4) (N := 16) hx hb hts inX4 hown hK hP 0 rfl rfl 10 (by decide) fl44 (fun _ h9 => h9) rfl dX4_noteCover_24 ?_
      refine lv_goto (tgt := 34) hx hb dX4_noteCover_27 (by decide) ?_
      refine va_put (D := E.1) (ci := 4) (v := .int wa) (ty := .int) (C := RX4) (T := TX4) (N := 16) hx hb hts inX4 tyX4 tyX4_ok nmX4 hown hK hP hD hS 0 rfl rfl 14 (by decide) fl56 (fun _ h9 => h9) rfl (by decide +kernel) rfl rfl (Nat.le_of_ble_eq_true rfl) dX4_noteCover_34 (fun H locs hP hD hS => ?_)
      have hP : va_P E.1 vwCl [(h0, .inr (4, [.ref wy, .int wl_, .int (nI ps), .int sta, .int hp, .int fd, .int pe, .int at_, .int go, .int tu, .int wa, .int ce, .int wt, .int x_2, .int wa, .int dr]))] H := hP
      have hD : va_D A [(h0, .inr (4, [.ref wy, .int wl_, .int (nI ps), .int sta, .int hp, .int fd, .int pe, .int at_, .int go, .int tu, .int wa, .int ce, .int wt, .int x_2, .int wa, .int dr]))] := hD
      have hP9 := hP.sub (ws' := [(h0, .inr (4, [.ref wy, .int wl_, .int (nI ps), .int sta, .int hp, .int fd, .int pe, .int at_, .int go, .int tu, .int wa, .int ce, .int wt, .int x_2, .int wa, .int dr]))]) [0] rfl
      have hD9 := hD.sub (ws' := [(h0, .inr (4, [.ref wy, .int wl_, .int (nI ps), .int sta, .int hp, .int fd, .int pe, .int at_, .int go, .int tu, .int wa, .int ce, .int wt, .int x_2, .int wa, .int dr]))]) [0] (by decide) rfl
      exact W.vret hx hb hr (fun t ht hW => ⟨⟨(x_2, wa), rfl, trivial, by rw [ht]; exact hP9, hD9⟩, hS.F ht⟩) hS.2.2 dX4_noteCover_37
set_option maxHeartbeats 4000000 in
set_option maxRecDepth 100000 in
theorem c_X4_turnHome (l : Launch) (E : vE) (h0 : Nat) (wy : Nat) (ps : Nat) (wl_ : Int32) (sta : Int32) (hp : Int32) (fd : Int32) (pe : Int32) (at_ : Int32) (go : Int32) (tu : Int32) (wa : Int32) (ce : Int32) (wt : Int32) (un : Int32) (fu : Int32) (dr : Int32) (fy : Nat → Int32) (se : Nat) (wi : Nat) (po : Nat) (fo_ : Nat → Int32) (sz : Nat) : Met l yX4_turnHome wsX4_turnHome ({ frames := 1, cells := 0, slots := 0, locals := 21 }) (pcW E [.ref h0, .ref se] sz [(h0, .inr (4, [.ref wy, .int wl_, .int (nI ps), .int sta, .int hp, .int fd, .int pe, .int at_, .int go, .int tu, .int wa, .int ce, .int wt, .int un, .int fu, .int dr])), (wy, .inl (E.2.1 0, 8, .inl fy)), (se, .inr (8, [.ref wi, .ref po])), (po, .inl (E.2.1 0, 10, .inl fo_))]) (va_Qv (fun (fy2 : (Nat → Int32)) => True) (fun (fy2 : (Nat → Int32)) (t : State) => wB E (va_A [(h0, .inr (4, [.ref wy, .int wl_, .int (nI ps), .int sta, .int hp, .int fd, .int pe, .int at_, .int go, .int tu, .int wa, .int ce, .int wt, .int un, .int fu, .int dr])), (wy, .inl (E.2.1 0, 8, .inl fy)), (se, .inr (8, [.ref wi, .ref po])), (po, .inl (E.2.1 0, 10, .inl fo_))] sz) [(h0, .inr (4, [.ref wy, .int 1, .int 0, .int sta, .int hp, .int fd, .int pe, .int at_, .int go, .int 1, .int wa, .int ce, .int wt, .int un, .int fu, .int dr])), (wy, .inl (E.2.1 0, 8, .inl fy2)), (se, .inr (8, [.ref wi, .ref po])), (po, .inl (E.2.1 0, 10, .inl fo_))] t) (va_A [(h0, .inr (4, [.ref wy, .int wl_, .int (nI ps), .int sta, .int hp, .int fd, .int pe, .int at_, .int go, .int tu, .int wa, .int ce, .int wt, .int un, .int fu, .int dr])), (wy, .inl (E.2.1 0, 8, .inl fy)), (se, .inr (8, [.ref wi, .ref po])), (po, .inl (E.2.1 0, 10, .inl fo_))] sz)) 0 0 (va_A [(h0, .inr (4, [.ref wy, .int wl_, .int (nI ps), .int sta, .int hp, .int fd, .int pe, .int at_, .int go, .int tu, .int wa, .int ce, .int wt, .int un, .int fu, .int dr])), (wy, .inl (E.2.1 0, 8, .inl fy)), (se, .inr (8, [.ref wi, .ref po])), (po, .inl (E.2.1 0, 10, .inl fo_))] sz) := by
  refine Met.ofW (cc := cX4_turnHome) (maxL := 2) (ret := none) (by decide) rfl ?_
  intro p e s m args below meth c s₁ B hml hv
  obtain ⟨rfl, hsz, hP, hkn, hD0, hst⟩ := hv
  have hx := B.exec
  have hb := B.bytes
  have hr := B.returns
  have hts := atoms_spec (ws := wsX4_turnHome) B.pre
  have hown : s.vm.findClass RX4 = some m.cls := findClass_of_methodNamed B.named
  have hlocks := B.notSynchronized
  subst hsz
  have hD := hD0.self (sz := s.heap.size)
  have hK := hkn.1
  have hAO := hkn.2.2.1
  generalize hAe : va_A [(h0, .inr (4, [.ref wy, .int wl_, .int (nI ps), .int sta, .int hp, .int fd, .int pe, .int at_, .int go, .int tu, .int wa, .int ce, .int wt, .int un, .int fu, .int dr])), (wy, .inl (E.2.1 0, 8, .inl fy)), (se, .inr (8, [.ref wi, .ref po])), (po, .inl (E.2.1 0, 10, .inl fo_))] s.heap.size = A at hD hst ⊢
  have hA : ∀ q : Nat, s.heap.size ≤ q → A q := fun q h => by rw [← hAe]; exact Or.inr h
  have hS : va_S A s.heap s.heap [] := va_S.rf
  have hP : va_P E.1 vwCl [(h0, .inr (4, [.ref wy, .int wl_, .int (nI ps), .int sta, .int hp, .int fd, .int pe, .int at_, .int go, .int tu, .int wa, .int ce, .int wt, .int un, .int fu, .int dr])), (wy, .inl (E.2.1 0, 8, .inl fy)), (se, .inr (8, [.ref wi, .ref po])), (po, .inl (E.2.1 0, 10, .inl fo_))] s.heap := hP
  have hl := lv_entry ([.ref h0, .ref se]) (n := 2) (Nat.le_of_ble_eq_true rfl)
  rw [lg_entry_eq]
  generalize (lg_sl ([.ref h0, .ref se]) ++ List.replicate (2 - (lg_sl ([.ref h0, .ref se])).length) Slot.unset).toArray = ls at hl ⊢
  have hl : lv_has ls 2 [(0, .ref h0), (1, .ref se)] := hl
  have fl9 := hts (.fieldLink RX4 9 "BoatsHome$Passage" "way" "[I") (by first | exact List.mem_of_getElem? (i := 2) rfl | decide +kernel)
  have fl15 := hts (.fieldLink RX4 15 "BoatsHome$Passage" "wayLength" "I") (by first | exact List.mem_of_getElem? (i := 6) rfl | decide +kernel)
  have fl19 := hts (.fieldLink RX4 19 "BoatsHome$Passage" "passed" "I") (by first | exact List.mem_of_getElem? (i := 7) rfl | decide +kernel)
  have fl25 := hts (.fieldLink RX4 25 "BoatsHome$Passage" "homePort" "I") (by first | exact List.mem_of_getElem? (i := 3) rfl | decide +kernel)
  have fl34 := hts (.fieldLink RX4 34 "BoatsHome$Passage" "at" "I") (by first | exact List.mem_of_getElem? (i := 5) rfl | decide +kernel)
  have fl40 := hts (.fieldLink RX4 40 "BoatsHome$Passage" "turned" "Z") (by first | exact List.mem_of_getElem? (i := 1) rfl | decide +kernel)
  have fl123 := hts (.fieldLink RX4 123 "BoatsHome$Sea" "ports" "[I") (by first | exact List.mem_of_getElem? (i := 4) rfl | decide +kernel)
  have inX4 : ∀ w ∈ u_ws RX4 TX4 16, w ∈ wsX4_turnHome := by first | exact fun w h9 => (List.mem_cons_of_mem _ (List.mem_append_left _ (List.mem_append_right _ h9))) | decide +kernel
  have inX8 : ∀ w ∈ u_ws RX8 TX8 2, w ∈ wsX4_turnHome := by first | exact fun w h9 => (List.mem_cons_of_mem _ (List.mem_append_right _ h9)) | decide +kernel
  refine lv_aload_n hx hb dX4_turnHome_0 rfl (lv_at hl 0 rfl) ?_
  refine lv_iconst (v := 1) hx hb dX4_turnHome_1 (by decide) ?_
  refine va_put (D := E.1) (ci := 4) (v := .int 1) (ty := .boolean) (C := RX4) (T := TX4) (N := 16) hx hb hts inX4 tyX4 tyX4_ok nmX4 hown hK hP hD hS 0 rfl rfl 9 (by decide) fl40 (fun _ h9 => h9) rfl (by decide +kernel) (by first | rfl | decide) (by first | rfl | decide) (Nat.le_of_ble_eq_true rfl) dX4_turnHome_2 (fun H locs hP hD hS => ?_)
  have hP : va_P E.1 vwCl [(h0, .inr (4, [.ref wy, .int wl_, .int (nI ps), .int sta, .int hp, .int fd, .int pe, .int at_, .int go, .int 1, .int wa, .int ce, .int wt, .int un, .int fu, .int dr])), (wy, .inl (E.2.1 0, 8, .inl fy)), (se, .inr (8, [.ref wi, .ref po])), (po, .inl (E.2.1 0, 10, .inl fo_))] H := hP
  have hD : va_D A [(h0, .inr (4, [.ref wy, .int wl_, .int (nI ps), .int sta, .int hp, .int fd, .int pe, .int at_, .int go, .int 1, .int wa, .int ce, .int wt, .int un, .int fu, .int dr])), (wy, .inl (E.2.1 0, 8, .inl fy)), (se, .inr (8, [.ref wi, .ref po])), (po, .inl (E.2.1 0, 10, .inl fo_))] := hD
  refine lv_aload_n hx hb dX4_turnHome_5 rfl (lv_at hl 0 rfl) ?_
  refine va_get (D := E.1) (ci := 4) (v := .ref wy) (C := RX4) (T := TX4) (N := 16) hx hb hts inX4 hown hK hP 0 rfl rfl 0 (by decide) fl9 (fun _ h9 => h9) rfl dX4_turnHome_6 ?_
  refine lv_iconst (v := 0) hx hb dX4_turnHome_9 (by decide) ?_
  refine lv_aload_n hx hb dX4_turnHome_10 rfl (lv_at hl 0 rfl) ?_
  refine va_get (D := E.1) (ci := 4) (v := .int hp) (C := RX4) (T := TX4) (N := 16) hx hb hts inX4 hown hK hP 0 rfl rfl 4 (by decide) fl25 (fun _ h9 => h9) rfl dX4_turnHome_11 ?_
  refine lv_bipush (v := 10) hx hb dX4_turnHome_14 (by decide) ?_
  have hPc := hP.sub (ws' := []) [] rfl
  have hDc := hD.sub (ws' := []) [] (by decide) rfl
  have hFc := va_free (wc := []) hD hS hA [] rfl
  refine va_calli (va_runSN (As := [.int hp, .int 10]) (rest := [.int 0, .ref wy]) ⟨hx, hb, hml, hown, hts⟩ (c_X11_below l E hp 10 9 H.size (lt_le (by decide))) ⟨va_cnB 2 hts gX4_turnHome_X11_below_n62 rfl rfl rfl (hkn.2.1 (.methodLinkNest RX4 62 yX11_below "BoatsHome") (by decide +kernel)) (hts (.initialized RX11) (by first | exact List.mem_of_getElem? (i := 9) rfl | decide +kernel)) (by decide +kernel) ⟨Nat.le_of_ble_eq_true rfl, Nat.le_of_ble_eq_true rfl⟩, hts (.static yX11_below) (by first | exact List.mem_of_getElem? (i := 8) rfl | decide +kernel), trivial⟩ ⟨pcW_blind, (pcW_pre hPc hkn hDc hst hS hFc)⟩ rfl rfl hl.1 rfl (lv_room (Nat.le_of_ble_eq_true rfl)) dX4_turnHome_16 ⟨Nat.le_of_ble_eq_true rfl, Nat.le_of_ble_eq_true rfl⟩) hS (fun q _ h => hFc q h) hFc (fun r_1 u t H1 locs ht hvm hw_2 hB hz1 hk1 hS => ?_)
  obtain ⟨hP1, hD1⟩ := hB
  rw [ht] at hP1
  try dsimp only at hw_2
  obtain ⟨hP, hD⟩ := va_join (wr := [(h0, .inr (4, [.ref wy, .int wl_, .int (nI ps), .int sta, .int hp, .int fd, .int pe, .int at_, .int go, .int 1, .int wa, .int ce, .int wt, .int un, .int fu, .int dr])), (wy, .inl (E.2.1 0, 8, .inl fy)), (se, .inr (8, [.ref wi, .ref po])), (po, .inl (E.2.1 0, 10, .inl fo_))]) (w1 := []) hP hD [] [0, 1, 2, 3] rfl rfl (by decide) (by decide) hk1 hFc hP1 hD1
  generalize H1 = H at hP hS ⊢
  have hP : va_P E.1 vwCl [(h0, .inr (4, [.ref wy, .int wl_, .int (nI ps), .int sta, .int hp, .int fd, .int pe, .int at_, .int go, .int 1, .int wa, .int ce, .int wt, .int un, .int fu, .int dr])), (wy, .inl (E.2.1 0, 8, .inl fy)), (se, .inr (8, [.ref wi, .ref po])), (po, .inl (E.2.1 0, 10, .inl fo_))] H := hP
  have hD : va_D A [(h0, .inr (4, [.ref wy, .int wl_, .int (nI ps), .int sta, .int hp, .int fd, .int pe, .int at_, .int go, .int 1, .int wa, .int ce, .int wt, .int un, .int fu, .int dr])), (wy, .inl (E.2.1 0, 8, .inl fy)), (se, .inr (8, [.ref wi, .ref po])), (po, .inl (E.2.1 0, 10, .inl fo_))] := hD
  refine lv_if_eq (tgt := 34) hx hb dX4_turnHome_19 (by decide) (fun c_3 => ?_) (fun c_3 => ?_)
  · have b_4 : inR hp 0 9 = false := bz hw_2 c_3
    refine lv_aload_n hx hb dX4_turnHome_34 rfl (lv_at hl 0 rfl) ?_
    refine va_get (D := E.1) (ci := 4) (v := .int at_) (C := RX4) (T := TX4) (N := 16) hx hb hts inX4 hown hK hP 0 rfl rfl 7 (by decide) fl34 (fun _ h9 => h9) rfl dX4_turnHome_35 ?_
    refine va_iast hx hb hK hP hD hS 1 0 rfl rfl (show vp_in 0 8 from by unfold vp_in; decide) dX4_turnHome_38 (fun H locs hP hD hS => ?_)
    have hP : va_P E.1 vwCl [(h0, .inr (4, [.ref wy, .int wl_, .int (nI ps), .int sta, .int hp, .int fd, .int pe, .int at_, .int go, .int 1, .int wa, .int ce, .int wt, .int un, .int fu, .int dr])), (wy, .inl (E.2.1 0, 8, .inl (upd fy (Int32.toNatClampNeg 0) at_))), (se, .inr (8, [.ref wi, .ref po])), (po, .inl (E.2.1 0, 10, .inl fo_))] H := hP
    have hD : va_D A [(h0, .inr (4, [.ref wy, .int wl_, .int (nI ps), .int sta, .int hp, .int fd, .int pe, .int at_, .int go, .int 1, .int wa, .int ce, .int wt, .int un, .int fu, .int dr])), (wy, .inl (E.2.1 0, 8, .inl (upd fy (Int32.toNatClampNeg 0) at_))), (se, .inr (8, [.ref wi, .ref po])), (po, .inl (E.2.1 0, 10, .inl fo_))] := hD
    obtain ⟨f_5, ef_5⟩ : ∃ g : Nat → Int32, g = upd fy (Int32.toNatClampNeg 0) at_ := ⟨_, rfl⟩
    rw [← ef_5] at hP hD
    refine lv_aload_n hx hb dX4_turnHome_39 rfl (lv_at hl 0 rfl) ?_
    refine lv_iconst (v := 1) hx hb dX4_turnHome_40 (by decide) ?_
    refine va_put (D := E.1) (ci := 4) (v := .int 1) (ty := .int) (C := RX4) (T := TX4) (N := 16) hx hb hts inX4 tyX4 tyX4_ok nmX4 hown hK hP hD hS 0 rfl rfl 1 (by decide) fl15 (fun _ h9 => h9) rfl (by decide +kernel) rfl rfl (Nat.le_of_ble_eq_true rfl) dX4_turnHome_41 (fun H locs hP hD hS => ?_)
    have hP : va_P E.1 vwCl [(h0, .inr (4, [.ref wy, .int 1, .int (nI ps), .int sta, .int hp, .int fd, .int pe, .int at_, .int go, .int 1, .int wa, .int ce, .int wt, .int un, .int fu, .int dr])), (wy, .inl (E.2.1 0, 8, .inl f_5)), (se, .inr (8, [.ref wi, .ref po])), (po, .inl (E.2.1 0, 10, .inl fo_))] H := hP
    have hD : va_D A [(h0, .inr (4, [.ref wy, .int 1, .int (nI ps), .int sta, .int hp, .int fd, .int pe, .int at_, .int go, .int 1, .int wa, .int ce, .int wt, .int un, .int fu, .int dr])), (wy, .inl (E.2.1 0, 8, .inl f_5)), (se, .inr (8, [.ref wi, .ref po])), (po, .inl (E.2.1 0, 10, .inl fo_))] := hD
    refine lv_aload_n hx hb dX4_turnHome_44 rfl (lv_at hl 0 rfl) ?_
    refine lv_iconst (v := 0) hx hb dX4_turnHome_45 (by decide) ?_
    refine va_put (D := E.1) (ci := 4) (v := .int 0) (ty := .int) (C := RX4) (T := TX4) (N := 16) hx hb hts inX4 tyX4 tyX4_ok nmX4 hown hK hP hD hS 0 rfl rfl 2 (by decide) fl19 (fun _ h9 => h9) rfl (by decide +kernel) rfl rfl (Nat.le_of_ble_eq_true rfl) dX4_turnHome_46 (fun H locs hP hD hS => ?_)
    have hP : va_P E.1 vwCl [(h0, .inr (4, [.ref wy, .int 1, .int 0, .int sta, .int hp, .int fd, .int pe, .int at_, .int go, .int 1, .int wa, .int ce, .int wt, .int un, .int fu, .int dr])), (wy, .inl (E.2.1 0, 8, .inl f_5)), (se, .inr (8, [.ref wi, .ref po])), (po, .inl (E.2.1 0, 10, .inl fo_))] H := hP
    have hD : va_D A [(h0, .inr (4, [.ref wy, .int 1, .int 0, .int sta, .int hp, .int fd, .int pe, .int at_, .int go, .int 1, .int wa, .int ce, .int wt, .int un, .int fu, .int dr])), (wy, .inl (E.2.1 0, 8, .inl f_5)), (se, .inr (8, [.ref wi, .ref po])), (po, .inl (E.2.1 0, 10, .inl fo_))] := hD
    have hP9 := hP.sub (ws' := [(h0, .inr (4, [.ref wy, .int 1, .int 0, .int sta, .int hp, .int fd, .int pe, .int at_, .int go, .int 1, .int wa, .int ce, .int wt, .int un, .int fu, .int dr])), (wy, .inl (E.2.1 0, 8, .inl f_5)), (se, .inr (8, [.ref wi, .ref po])), (po, .inl (E.2.1 0, 10, .inl fo_))]) [0, 1, 2, 3] rfl
    have hD9 := hD.sub (ws' := [(h0, .inr (4, [.ref wy, .int 1, .int 0, .int sta, .int hp, .int fd, .int pe, .int at_, .int go, .int 1, .int wa, .int ce, .int wt, .int un, .int fu, .int dr])), (wy, .inl (E.2.1 0, 8, .inl f_5)), (se, .inr (8, [.ref wi, .ref po])), (po, .inl (E.2.1 0, 10, .inl fo_))]) [0, 1, 2, 3] (by decide) rfl
    exact W.vret hx hb hr (fun t ht hW => ⟨⟨f_5, rfl, trivial, by rw [ht]; exact hP9, hD9⟩, hS.F ht⟩) hS.2.2 dX4_turnHome_49
  · have b_6 : inR hp 0 9 = true := bn hw_2 c_3
    refine lv_aload_n hx hb dX4_turnHome_22 rfl (lv_at hl 1 rfl) ?_
    refine va_get (D := E.1) (ci := 8) (v := .ref po) (C := RX8) (T := TX8) (N := 2) hx hb hts inX8 hown hK hP 2 rfl rfl 1 (by decide) fl123 (fun _ h9 => h9) rfl dX4_turnHome_23 ?_
    refine lv_aload_n hx hb dX4_turnHome_26 rfl (lv_at hl 0 rfl) ?_
    refine va_get (D := E.1) (ci := 4) (v := .int hp) (C := RX4) (T := TX4) (N := 16) hx hb hts inX4 hown hK hP 0 rfl rfl 4 (by decide) fl25 (fun _ h9 => h9) rfl dX4_turnHome_27 ?_
    have hi_7 : vp_in hp 10 := inR_in (by decide) b_6
    refine va_iald hx hb hK hP 3 0 rfl rfl hi_7 dX4_turnHome_30 ?_
    refine lv_topi (fun x_8 ex_8 => ?_)
    refine lv_goto (tgt := 38) hx hb dX4_turnHome_31 (by decide) ?_
    refine va_iast hx hb hK hP hD hS 1 0 rfl rfl (show vp_in 0 8 from by unfold vp_in; decide) dX4_turnHome_38 (fun H locs hP hD hS => ?_)
    have hP : va_P E.1 vwCl [(h0, .inr (4, [.ref wy, .int wl_, .int (nI ps), .int sta, .int hp, .int fd, .int pe, .int at_, .int go, .int 1, .int wa, .int ce, .int wt, .int un, .int fu, .int dr])), (wy, .inl (E.2.1 0, 8, .inl (upd fy (Int32.toNatClampNeg 0) x_8))), (se, .inr (8, [.ref wi, .ref po])), (po, .inl (E.2.1 0, 10, .inl fo_))] H := hP
    have hD : va_D A [(h0, .inr (4, [.ref wy, .int wl_, .int (nI ps), .int sta, .int hp, .int fd, .int pe, .int at_, .int go, .int 1, .int wa, .int ce, .int wt, .int un, .int fu, .int dr])), (wy, .inl (E.2.1 0, 8, .inl (upd fy (Int32.toNatClampNeg 0) x_8))), (se, .inr (8, [.ref wi, .ref po])), (po, .inl (E.2.1 0, 10, .inl fo_))] := hD
    obtain ⟨f_9, ef_9⟩ : ∃ g : Nat → Int32, g = upd fy (Int32.toNatClampNeg 0) x_8 := ⟨_, rfl⟩
    rw [← ef_9] at hP hD
    refine lv_aload_n hx hb dX4_turnHome_39 rfl (lv_at hl 0 rfl) ?_
    refine lv_iconst (v := 1) hx hb dX4_turnHome_40 (by decide) ?_
    refine va_put (D := E.1) (ci := 4) (v := .int 1) (ty := .int) (C := RX4) (T := TX4) (N := 16) hx hb hts inX4 tyX4 tyX4_ok nmX4 hown hK hP hD hS 0 rfl rfl 1 (by decide) fl15 (fun _ h9 => h9) rfl (by decide +kernel) rfl rfl (Nat.le_of_ble_eq_true rfl) dX4_turnHome_41 (fun H locs hP hD hS => ?_)
    have hP : va_P E.1 vwCl [(h0, .inr (4, [.ref wy, .int 1, .int (nI ps), .int sta, .int hp, .int fd, .int pe, .int at_, .int go, .int 1, .int wa, .int ce, .int wt, .int un, .int fu, .int dr])), (wy, .inl (E.2.1 0, 8, .inl f_9)), (se, .inr (8, [.ref wi, .ref po])), (po, .inl (E.2.1 0, 10, .inl fo_))] H := hP
    have hD : va_D A [(h0, .inr (4, [.ref wy, .int 1, .int (nI ps), .int sta, .int hp, .int fd, .int pe, .int at_, .int go, .int 1, .int wa, .int ce, .int wt, .int un, .int fu, .int dr])), (wy, .inl (E.2.1 0, 8, .inl f_9)), (se, .inr (8, [.ref wi, .ref po])), (po, .inl (E.2.1 0, 10, .inl fo_))] := hD
    refine lv_aload_n hx hb dX4_turnHome_44 rfl (lv_at hl 0 rfl) ?_
    refine lv_iconst (v := 0) hx hb dX4_turnHome_45 (by decide) ?_
    refine va_put (D := E.1) (ci := 4) (v := .int 0) (ty := .int) (C := RX4) (T := TX4) (N := 16) hx hb hts inX4 tyX4 tyX4_ok nmX4 hown hK hP hD hS 0 rfl rfl 2 (by decide) fl19 (fun _ h9 => h9) rfl (by decide +kernel) rfl rfl (Nat.le_of_ble_eq_true rfl) dX4_turnHome_46 (fun H locs hP hD hS => ?_)
    have hP : va_P E.1 vwCl [(h0, .inr (4, [.ref wy, .int 1, .int 0, .int sta, .int hp, .int fd, .int pe, .int at_, .int go, .int 1, .int wa, .int ce, .int wt, .int un, .int fu, .int dr])), (wy, .inl (E.2.1 0, 8, .inl f_9)), (se, .inr (8, [.ref wi, .ref po])), (po, .inl (E.2.1 0, 10, .inl fo_))] H := hP
    have hD : va_D A [(h0, .inr (4, [.ref wy, .int 1, .int 0, .int sta, .int hp, .int fd, .int pe, .int at_, .int go, .int 1, .int wa, .int ce, .int wt, .int un, .int fu, .int dr])), (wy, .inl (E.2.1 0, 8, .inl f_9)), (se, .inr (8, [.ref wi, .ref po])), (po, .inl (E.2.1 0, 10, .inl fo_))] := hD
    have hP9 := hP.sub (ws' := [(h0, .inr (4, [.ref wy, .int 1, .int 0, .int sta, .int hp, .int fd, .int pe, .int at_, .int go, .int 1, .int wa, .int ce, .int wt, .int un, .int fu, .int dr])), (wy, .inl (E.2.1 0, 8, .inl f_9)), (se, .inr (8, [.ref wi, .ref po])), (po, .inl (E.2.1 0, 10, .inl fo_))]) [0, 1, 2, 3] rfl
    have hD9 := hD.sub (ws' := [(h0, .inr (4, [.ref wy, .int 1, .int 0, .int sta, .int hp, .int fd, .int pe, .int at_, .int go, .int 1, .int wa, .int ce, .int wt, .int un, .int fu, .int dr])), (wy, .inl (E.2.1 0, 8, .inl f_9)), (se, .inr (8, [.ref wi, .ref po])), (po, .inl (E.2.1 0, 10, .inl fo_))]) [0, 1, 2, 3] (by decide) rfl
    exact W.vret hx hb hr (fun t ht hW => ⟨⟨f_9, rfl, trivial, by rw [ht]; exact hP9, hD9⟩, hS.F ht⟩) hS.2.2 dX4_turnHome_49
set_option maxHeartbeats 4000000 in
set_option maxRecDepth 100000 in
theorem c_X4_nextPlace (l : Launch) (E : vE) (h0 : Nat) (wy : Nat) (ps : Nat) (wl_ : Int32) (sta : Int32) (hp : Int32) (fd : Int32) (pe : Int32) (at_ : Int32) (go : Int32) (tu : Int32) (wa : Int32) (ce : Int32) (wt : Int32) (un : Int32) (fu : Int32) (dr : Int32) (fy : Nat → Int32) (sz : Nat) : Met l yX4_nextPlace wsX4_nextPlace ({ frames := 1, cells := 0, slots := 0, locals := 21 }) (pcW E [.ref h0] sz [(h0, .inr (4, [.ref wy, .int wl_, .int (nI ps), .int sta, .int hp, .int fd, .int pe, .int at_, .int go, .int tu, .int wa, .int ce, .int wt, .int un, .int fu, .int dr])), (wy, .inl (E.2.1 0, 8, .inl fy))]) (va_Qi (fun (r : Int32) (_ : Unit) => True) (fun (_ : Unit) (t : State) => wB E (va_A [(h0, .inr (4, [.ref wy, .int wl_, .int (nI ps), .int sta, .int hp, .int fd, .int pe, .int at_, .int go, .int tu, .int wa, .int ce, .int wt, .int un, .int fu, .int dr])), (wy, .inl (E.2.1 0, 8, .inl fy))] sz) [(h0, .inr (4, [.ref wy, .int wl_, .int (nI ps), .int sta, .int hp, .int fd, .int pe, .int at_, .int go, .int tu, .int wa, .int ce, .int wt, .int un, .int fu, .int dr])), (wy, .inl (E.2.1 0, 8, .inl fy))] t) (va_A [(h0, .inr (4, [.ref wy, .int wl_, .int (nI ps), .int sta, .int hp, .int fd, .int pe, .int at_, .int go, .int tu, .int wa, .int ce, .int wt, .int un, .int fu, .int dr])), (wy, .inl (E.2.1 0, 8, .inl fy))] sz)) 0 0 (va_A [(h0, .inr (4, [.ref wy, .int wl_, .int (nI ps), .int sta, .int hp, .int fd, .int pe, .int at_, .int go, .int tu, .int wa, .int ce, .int wt, .int un, .int fu, .int dr])), (wy, .inl (E.2.1 0, 8, .inl fy))] sz) := by
  refine Met.ofW (cc := cX4_nextPlace) (maxL := 1) (ret := (some .int)) (by decide) rfl ?_
  intro p e s m args below meth c s₁ B hml hv
  obtain ⟨rfl, hsz, hP, hkn, hD0, hst⟩ := hv
  have hx := B.exec
  have hb := B.bytes
  have hr := B.returns
  have hts := atoms_spec (ws := wsX4_nextPlace) B.pre
  have hown : s.vm.findClass RX4 = some m.cls := findClass_of_methodNamed B.named
  have hlocks := B.notSynchronized
  subst hsz
  have hD := hD0.self (sz := s.heap.size)
  have hK := hkn.1
  have hAO := hkn.2.2.1
  generalize hAe : va_A [(h0, .inr (4, [.ref wy, .int wl_, .int (nI ps), .int sta, .int hp, .int fd, .int pe, .int at_, .int go, .int tu, .int wa, .int ce, .int wt, .int un, .int fu, .int dr])), (wy, .inl (E.2.1 0, 8, .inl fy))] s.heap.size = A at hD hst ⊢
  have hA : ∀ q : Nat, s.heap.size ≤ q → A q := fun q h => by rw [← hAe]; exact Or.inr h
  have hS : va_S A s.heap s.heap [] := va_S.rf
  have hP : va_P E.1 vwCl [(h0, .inr (4, [.ref wy, .int wl_, .int (nI ps), .int sta, .int hp, .int fd, .int pe, .int at_, .int go, .int tu, .int wa, .int ce, .int wt, .int un, .int fu, .int dr])), (wy, .inl (E.2.1 0, 8, .inl fy))] s.heap := hP
  have hl := lv_entry ([.ref h0]) (n := 1) (Nat.le_of_ble_eq_true rfl)
  rw [lg_entry_eq]
  generalize (lg_sl ([.ref h0]) ++ List.replicate (1 - (lg_sl ([.ref h0])).length) Slot.unset).toArray = ls at hl ⊢
  have hl : lv_has ls 1 [(0, .ref h0)] := hl
  have fl9 := hts (.fieldLink RX4 9 "BoatsHome$Passage" "way" "[I") (by first | exact List.mem_of_getElem? (i := 2) rfl | decide +kernel)
  have fl19 := hts (.fieldLink RX4 19 "BoatsHome$Passage" "passed" "I") (by first | exact List.mem_of_getElem? (i := 1) rfl | decide +kernel)
  have fl34 := hts (.fieldLink RX4 34 "BoatsHome$Passage" "at" "I") (by first | exact List.mem_of_getElem? (i := 3) rfl | decide +kernel)
  have inX4 : ∀ w ∈ u_ws RX4 TX4 16, w ∈ wsX4_nextPlace := by first | exact fun w h9 => (List.mem_cons_of_mem _ (List.mem_append_right _ h9)) | decide +kernel
  refine lv_aload_n hx hb dX4_nextPlace_0 rfl (lv_at hl 0 rfl) ?_
  refine va_get (D := E.1) (ci := 4) (v := .int (nI ps)) (C := RX4) (T := TX4) (N := 16) hx hb hts inX4 hown hK hP 0 rfl rfl 2 (by decide) fl19 (fun _ h9 => h9) rfl dX4_nextPlace_1 ?_
  refine lv_bipush (v := 8) hx hb dX4_nextPlace_4 (by decide) ?_
  have hPc := hP.sub (ws' := []) [] rfl
  have hDc := hD.sub (ws' := []) [] (by decide) rfl
  have hFc := va_free (wc := []) hD hS hA [] rfl
  refine va_calli (va_runSN (As := [.int (nI ps), .int 8]) (rest := []) ⟨hx, hb, hml, hown, hts⟩ (c_X11_below l E (nI ps) 8 7 s.heap.size (lt_le (by decide))) ⟨va_cnB 2 hts gX4_nextPlace_X11_below_n62 rfl rfl rfl (hkn.2.1 (.methodLinkNest RX4 62 yX11_below "BoatsHome") (by decide +kernel)) (hts (.initialized RX11) (by first | exact List.mem_of_getElem? (i := 5) rfl | decide +kernel)) (by decide +kernel) ⟨Nat.le_of_ble_eq_true rfl, Nat.le_of_ble_eq_true rfl⟩, hts (.static yX11_below) (by first | exact List.mem_of_getElem? (i := 4) rfl | decide +kernel), trivial⟩ ⟨pcW_blind, (pcW_pre hPc hkn hDc hst hS hFc)⟩ rfl rfl hl.1 rfl (lv_room (Nat.le_of_ble_eq_true rfl)) dX4_nextPlace_6 ⟨Nat.le_of_ble_eq_true rfl, Nat.le_of_ble_eq_true rfl⟩) hS (fun q _ h => hFc q h) hFc (fun r_1 u t H1 locs ht hvm hw_2 hB hz1 hk1 hS => ?_)
  obtain ⟨hP1, hD1⟩ := hB
  rw [ht] at hP1
  try dsimp only at hw_2
  obtain ⟨hP, hD⟩ := va_join (wr := [(h0, .inr (4, [.ref wy, .int wl_, .int (nI ps), .int sta, .int hp, .int fd, .int pe, .int at_, .int go, .int tu, .int wa, .int ce, .int wt, .int un, .int fu, .int dr])), (wy, .inl (E.2.1 0, 8, .inl fy))]) (w1 := []) hP hD [] [0, 1] rfl rfl (by decide) (by decide) hk1 hFc hP1 hD1
  generalize H1 = H at hP hS ⊢
  have hP : va_P E.1 vwCl [(h0, .inr (4, [.ref wy, .int wl_, .int (nI ps), .int sta, .int hp, .int fd, .int pe, .int at_, .int go, .int tu, .int wa, .int ce, .int wt, .int un, .int fu, .int dr])), (wy, .inl (E.2.1 0, 8, .inl fy))] H := hP
  have hD : va_D A [(h0, .inr (4, [.ref wy, .int wl_, .int (nI ps), .int sta, .int hp, .int fd, .int pe, .int at_, .int go, .int tu, .int wa, .int ce, .int wt, .int un, .int fu, .int dr])), (wy, .inl (E.2.1 0, 8, .inl fy))] := hD
  refine lv_if_eq (tgt := 24) hx hb dX4_nextPlace_9 (by decide) (fun c_3 => ?_) (fun c_3 => ?_)
  · have b_4 : inR (nI ps) 0 7 = false := bz hw_2 c_3
    refine lv_aload_n hx hb dX4_nextPlace_24 rfl (lv_at hl 0 rfl) ?_
    refine va_get (D := E.1) (ci := 4) (v := .int at_) (C := RX4) (T := TX4) (N := 16) hx hb hts inX4 hown hK hP 0 rfl rfl 7 (by decide) fl34 (fun _ h9 => h9) rfl dX4_nextPlace_25 ?_
    have hP9 := hP.sub (ws' := [(h0, .inr (4, [.ref wy, .int wl_, .int (nI ps), .int sta, .int hp, .int fd, .int pe, .int at_, .int go, .int tu, .int wa, .int ce, .int wt, .int un, .int fu, .int dr])), (wy, .inl (E.2.1 0, 8, .inl fy))]) [0, 1] rfl
    have hD9 := hD.sub (ws' := [(h0, .inr (4, [.ref wy, .int wl_, .int (nI ps), .int sta, .int hp, .int fd, .int pe, .int at_, .int go, .int tu, .int wa, .int ce, .int wt, .int un, .int fu, .int dr])), (wy, .inl (E.2.1 0, 8, .inl fy))]) [0, 1] (by decide) rfl
    exact W.iret (v := at_) hx hb hr (fun t ht hW => ⟨⟨at_, (), rfl, trivial, by rw [ht]; exact hP9, hD9⟩, hS.F ht⟩) hS.2.2 dX4_nextPlace_28
  · have b_5 : inR (nI ps) 0 7 = true := bn hw_2 c_3
    refine lv_aload_n hx hb dX4_nextPlace_12 rfl (lv_at hl 0 rfl) ?_
    refine va_get (D := E.1) (ci := 4) (v := .ref wy) (C := RX4) (T := TX4) (N := 16) hx hb hts inX4 hown hK hP 0 rfl rfl 0 (by decide) fl9 (fun _ h9 => h9) rfl dX4_nextPlace_13 ?_
    refine lv_aload_n hx hb dX4_nextPlace_16 rfl (lv_at hl 0 rfl) ?_
    refine va_get (D := E.1) (ci := 4) (v := .int (nI ps)) (C := RX4) (T := TX4) (N := 16) hx hb hts inX4 hown hK hP 0 rfl rfl 2 (by decide) fl19 (fun _ h9 => h9) rfl dX4_nextPlace_17 ?_
    have hi_6 : vp_in (nI ps) 8 := inR_in (by decide) b_5
    refine va_iald hx hb hK hP 1 0 rfl rfl hi_6 dX4_nextPlace_20 ?_
    refine lv_topi (fun x_7 ex_7 => ?_)
    refine lv_goto (tgt := 28) hx hb dX4_nextPlace_21 (by decide) ?_
    have hP9 := hP.sub (ws' := [(h0, .inr (4, [.ref wy, .int wl_, .int (nI ps), .int sta, .int hp, .int fd, .int pe, .int at_, .int go, .int tu, .int wa, .int ce, .int wt, .int un, .int fu, .int dr])), (wy, .inl (E.2.1 0, 8, .inl fy))]) [0, 1] rfl
    have hD9 := hD.sub (ws' := [(h0, .inr (4, [.ref wy, .int wl_, .int (nI ps), .int sta, .int hp, .int fd, .int pe, .int at_, .int go, .int tu, .int wa, .int ce, .int wt, .int un, .int fu, .int dr])), (wy, .inl (E.2.1 0, 8, .inl fy))]) [0, 1] (by decide) rfl
    exact W.iret (v := x_7) hx hb hr (fun t ht hW => ⟨⟨x_7, (), rfl, trivial, by rw [ht]; exact hP9, hD9⟩, hS.F ht⟩) hS.2.2 dX4_nextPlace_28
set_option maxHeartbeats 4000000 in
set_option maxRecDepth 100000 in
theorem c_J6_compare_7cf53 (l : Launch) (E : vE) (x : Int32) (y : Int32) (sz : Nat) : Met l yJ6_compare_7cf53 wsJ6_compare_7cf53 ({ frames := 0, cells := 0, slots := 0, locals := 0 }) (pcW E [.int x, .int y] sz []) (va_Qi (fun (r : Int32) (_ : Unit) => True) (fun (_ : Unit) (t : State) => wB E (va_A [] sz) [] t) (va_A [] sz)) 0 0 (va_A [] sz) := by
  refine Met.ofW (cc := cJ6_compare_7cf53) (maxL := 2) (ret := (some .int)) (by decide) rfl ?_
  intro p e s m args below meth c s₁ B hml hv
  obtain ⟨rfl, hsz, hP, hkn, hD0, hst⟩ := hv
  have hx := B.exec
  have hb := B.bytes
  have hr := B.returns
  have hts := atoms_spec (ws := wsJ6_compare_7cf53) B.pre
  have hown : s.vm.findClass RJ6 = some m.cls := findClass_of_methodNamed B.named
  have hlocks := B.notSynchronized
  subst hsz
  have hD := hD0.self (sz := s.heap.size)
  have hK := hkn.1
  have hAO := hkn.2.2.1
  generalize hAe : va_A [] s.heap.size = A at hD hst ⊢
  have hA : ∀ q : Nat, s.heap.size ≤ q → A q := fun q h => by rw [← hAe]; exact Or.inr h
  have hS : va_S A s.heap s.heap [] := va_S.rf
  have hP : va_P E.1 vwCl [] s.heap := hP
  have hl := lv_entry ([.int x, .int y]) (n := 2) (Nat.le_of_ble_eq_true rfl)
  rw [lg_entry_eq]
  generalize (lg_sl ([.int x, .int y]) ++ List.replicate (2 - (lg_sl ([.int x, .int y])).length) Slot.unset).toArray = ls at hl ⊢
  have hl : lv_has ls 2 [(0, .int x), (1, .int y)] := hl
  refine lv_iload_n hx hb dJ6_compare_7cf53_0 rfl (lv_at hl 0 rfl) ?_
  refine lv_iload_n hx hb dJ6_compare_7cf53_1 rfl (lv_at hl 1 rfl) ?_
  refine lv_icmp_ge (tgt := 9) hx hb dJ6_compare_7cf53_2 (by decide) (fun c_1 => ?_) (fun c_1 => ?_)
  · refine lv_iload_n hx hb dJ6_compare_7cf53_9 rfl (lv_at hl 0 rfl) ?_
    refine lv_iload_n hx hb dJ6_compare_7cf53_10 rfl (lv_at hl 1 rfl) ?_
    refine lv_icmp_ne (tgt := 18) hx hb dJ6_compare_7cf53_11 (by decide) (fun c_2 => ?_) (fun c_2 => ?_)
    · refine lv_iconst (v := 1) hx hb dJ6_compare_7cf53_18 (by decide) ?_
      have hP9 := hP.sub (ws' := []) [] rfl
      have hD9 := hD.sub (ws' := []) [] (by decide) rfl
      exact W.iret (v := 1) hx hb hr (fun t ht hW => ⟨⟨1, (), rfl, trivial, by rw [ht]; exact hP9, hD9⟩, hS.F ht⟩) hS.2.2 dJ6_compare_7cf53_19
    · refine lv_iconst (v := 0) hx hb dJ6_compare_7cf53_14 (by decide) ?_
      refine lv_goto (tgt := 19) hx hb dJ6_compare_7cf53_15 (by decide) ?_
      have hP9 := hP.sub (ws' := []) [] rfl
      have hD9 := hD.sub (ws' := []) [] (by decide) rfl
      exact W.iret (v := 0) hx hb hr (fun t ht hW => ⟨⟨0, (), rfl, trivial, by rw [ht]; exact hP9, hD9⟩, hS.F ht⟩) hS.2.2 dJ6_compare_7cf53_19
  · refine lv_iconst (v := (-1)) hx hb dJ6_compare_7cf53_5 (by decide) ?_
    refine lv_goto (tgt := 19) hx hb dJ6_compare_7cf53_6 (by decide) ?_
    have hP9 := hP.sub (ws' := []) [] rfl
    have hD9 := hD.sub (ws' := []) [] (by decide) rfl
    exact W.iret (v := (-1)) hx hb hr (fun t ht hW => ⟨⟨(-1), (), rfl, trivial, by rw [ht]; exact hP9, hD9⟩, hS.F ht⟩) hS.2.2 dJ6_compare_7cf53_19
set_option maxHeartbeats 4000000 in
set_option maxRecDepth 100000 in
theorem c_X4_columnSign (l : Launch) (E : vE) (h0 : Nat) (wy : Nat) (ps : Nat) (wl_ : Int32) (sta : Int32) (hp : Int32) (fd : Int32) (pe : Int32) (at_ : Int32) (go : Int32) (tu : Int32) (wa : Int32) (ce : Int32) (wt : Int32) (un : Int32) (fu : Int32) (dr : Int32) (fy : Nat → Int32) (sz : Nat) : Met l yX4_columnSign wsX4_columnSign ({ frames := 2, cells := 0, slots := 0, locals := 41 }) (pcW E [.ref h0] sz [(h0, .inr (4, [.ref wy, .int wl_, .int (nI ps), .int sta, .int hp, .int fd, .int pe, .int at_, .int go, .int tu, .int wa, .int ce, .int wt, .int un, .int fu, .int dr])), (wy, .inl (E.2.1 0, 8, .inl fy))]) (va_Qi (fun (r : Int32) (_ : Unit) => True) (fun (_ : Unit) (t : State) => wB E (va_A [(h0, .inr (4, [.ref wy, .int wl_, .int (nI ps), .int sta, .int hp, .int fd, .int pe, .int at_, .int go, .int tu, .int wa, .int ce, .int wt, .int un, .int fu, .int dr])), (wy, .inl (E.2.1 0, 8, .inl fy))] sz) [(h0, .inr (4, [.ref wy, .int wl_, .int (nI ps), .int sta, .int hp, .int fd, .int pe, .int at_, .int go, .int tu, .int wa, .int ce, .int wt, .int un, .int fu, .int dr])), (wy, .inl (E.2.1 0, 8, .inl fy))] t) (va_A [(h0, .inr (4, [.ref wy, .int wl_, .int (nI ps), .int sta, .int hp, .int fd, .int pe, .int at_, .int go, .int tu, .int wa, .int ce, .int wt, .int un, .int fu, .int dr])), (wy, .inl (E.2.1 0, 8, .inl fy))] sz)) 0 0 (va_A [(h0, .inr (4, [.ref wy, .int wl_, .int (nI ps), .int sta, .int hp, .int fd, .int pe, .int at_, .int go, .int tu, .int wa, .int ce, .int wt, .int un, .int fu, .int dr])), (wy, .inl (E.2.1 0, 8, .inl fy))] sz) := by
  refine Met.ofW (cc := cX4_columnSign) (maxL := 1) (ret := (some .int)) (by decide) rfl ?_
  intro p e s m args below meth c s₁ B hml hv
  obtain ⟨rfl, hsz, hP, hkn, hD0, hst⟩ := hv
  have hx := B.exec
  have hb := B.bytes
  have hr := B.returns
  have hts := atoms_spec (ws := wsX4_columnSign) B.pre
  have hown : s.vm.findClass RX4 = some m.cls := findClass_of_methodNamed B.named
  have hlocks := B.notSynchronized
  subst hsz
  have hD := hD0.self (sz := s.heap.size)
  have hK := hkn.1
  have hAO := hkn.2.2.1
  generalize hAe : va_A [(h0, .inr (4, [.ref wy, .int wl_, .int (nI ps), .int sta, .int hp, .int fd, .int pe, .int at_, .int go, .int tu, .int wa, .int ce, .int wt, .int un, .int fu, .int dr])), (wy, .inl (E.2.1 0, 8, .inl fy))] s.heap.size = A at hD hst ⊢
  have hA : ∀ q : Nat, s.heap.size ≤ q → A q := fun q h => by rw [← hAe]; exact Or.inr h
  have hS : va_S A s.heap s.heap [] := va_S.rf
  have hP : va_P E.1 vwCl [(h0, .inr (4, [.ref wy, .int wl_, .int (nI ps), .int sta, .int hp, .int fd, .int pe, .int at_, .int go, .int tu, .int wa, .int ce, .int wt, .int un, .int fu, .int dr])), (wy, .inl (E.2.1 0, 8, .inl fy))] s.heap := hP
  have hl := lv_entry ([.ref h0]) (n := 1) (Nat.le_of_ble_eq_true rfl)
  rw [lg_entry_eq]
  generalize (lg_sl ([.ref h0]) ++ List.replicate (1 - (lg_sl ([.ref h0])).length) Slot.unset).toArray = ls at hl ⊢
  have hl : lv_has ls 1 [(0, .ref h0)] := hl
  have fl34 := hts (.fieldLink RX4 34 "BoatsHome$Passage" "at" "I") (by first | exact List.mem_of_getElem? (i := 1) rfl | decide +kernel)
  have inX4 : ∀ w ∈ u_ws RX4 TX4 16, w ∈ wsX4_columnSign := by first | exact fun w h9 => (List.mem_cons_of_mem _ (List.mem_append_right _ h9)) | decide +kernel
  refine lv_aload_n hx hb dX4_columnSign_0 rfl (lv_at hl 0 rfl) ?_
  have hPc := hP.sub (ws' := [(h0, .inr (4, [.ref wy, .int wl_, .int (nI ps), .int sta, .int hp, .int fd, .int pe, .int at_, .int go, .int tu, .int wa, .int ce, .int wt, .int un, .int fu, .int dr])), (wy, .inl (E.2.1 0, 8, .inl fy))]) [0, 1] rfl
  have hDc := hD.sub (ws' := [(h0, .inr (4, [.ref wy, .int wl_, .int (nI ps), .int sta, .int hp, .int fd, .int pe, .int at_, .int go, .int tu, .int wa, .int ce, .int wt, .int un, .int fu, .int dr])), (wy, .inl (E.2.1 0, 8, .inl fy))]) [0, 1] (by decide) rfl
  have hFc := va_free (wc := [(h0, .inr (4, [.ref wy, .int wl_, .int (nI ps), .int sta, .int hp, .int fd, .int pe, .int at_, .int go, .int tu, .int wa, .int ce, .int wt, .int un, .int fu, .int dr])), (wy, .inl (E.2.1 0, 8, .inl fy))]) hD hS hA [0, 1] rfl
  refine va_calli (va_runV (As := []) (rest := []) ⟨hx, hb, hml, hown, hts⟩ (c_X4_nextPlace l E h0 wy ps wl_ sta hp fd pe at_ go tu wa ce wt un fu dr fy s.heap.size ) (cwV 0 hts gX4_columnSign_X4_nextPlace rfl rfl rfl hdV_X4_nextPlace ⟨Nat.le_of_ble_eq_true rfl, Nat.le_of_ble_eq_true rfl⟩) ⟨pcW_blind, va_recv hK hPc (ci := 4) (q0 := 0) rfl rfl, (pcW_pre hPc hkn hDc hst hS hFc)⟩ rfl rfl hl.1 rfl (lv_room (Nat.le_of_ble_eq_true rfl)) dX4_columnSign_1 ⟨Nat.le_of_ble_eq_true rfl, Nat.le_of_ble_eq_true rfl⟩) hS (fun q _ h => hFc q h) hFc (fun r_1 u t H1 locs ht hvm hw_2 hB hz1 hk1 hS => ?_)
  obtain ⟨hP1, hD1⟩ := hB
  rw [ht] at hP1
  try dsimp only at hw_2
  obtain ⟨hP, hD⟩ := va_join (wr := []) (w1 := [(h0, .inr (4, [.ref wy, .int wl_, .int (nI ps), .int sta, .int hp, .int fd, .int pe, .int at_, .int go, .int tu, .int wa, .int ce, .int wt, .int un, .int fu, .int dr])), (wy, .inl (E.2.1 0, 8, .inl fy))]) hP hD [0, 1] [] rfl rfl (by decide) (by decide) hk1 hFc hP1 hD1
  generalize H1 = H at hP hS ⊢
  have hP : va_P E.1 vwCl [(h0, .inr (4, [.ref wy, .int wl_, .int (nI ps), .int sta, .int hp, .int fd, .int pe, .int at_, .int go, .int tu, .int wa, .int ce, .int wt, .int un, .int fu, .int dr])), (wy, .inl (E.2.1 0, 8, .inl fy))] H := hP
  have hD : va_D A [(h0, .inr (4, [.ref wy, .int wl_, .int (nI ps), .int sta, .int hp, .int fd, .int pe, .int at_, .int go, .int tu, .int wa, .int ce, .int wt, .int un, .int fu, .int dr])), (wy, .inl (E.2.1 0, 8, .inl fy))] := hD
  have hPc := hP.sub (ws' := []) [] rfl
  have hDc := hD.sub (ws' := []) [] (by decide) rfl
  have hFc := va_free (wc := []) hD hS hA [] rfl
  refine va_calli (va_runSN (As := [.int r_1]) (rest := []) ⟨hx, hb, hml, hown, hts⟩ (c_X11_columnOf l E r_1 H.size ) ⟨va_cnB 1 hts gX4_columnSign_X11_columnOf_n159 rfl rfl rfl (hkn.2.1 (.methodLinkNest RX4 159 yX11_columnOf "BoatsHome") (by decide +kernel)) (hts (.initialized RX11) (by first | exact List.mem_of_getElem? (i := 10) rfl | decide +kernel)) (by decide +kernel) ⟨Nat.le_of_ble_eq_true rfl, Nat.le_of_ble_eq_true rfl⟩, hts (.static yX11_columnOf) (by first | exact List.mem_of_getElem? (i := 12) rfl | decide +kernel), trivial⟩ ⟨pcW_blind, (pcW_pre hPc hkn hDc hst hS hFc)⟩ rfl rfl hl.1 rfl (lv_room (Nat.le_of_ble_eq_true rfl)) dX4_columnSign_4 ⟨Nat.le_of_ble_eq_true rfl, Nat.le_of_ble_eq_true rfl⟩) hS (fun q _ h => hFc q h) hFc (fun r_3 u t H1 locs ht hvm hw_4 hB hz1 hk1 hS => ?_)
  obtain ⟨hP1, hD1⟩ := hB
  rw [ht] at hP1
  try dsimp only at hw_4
  obtain ⟨hP, hD⟩ := va_join (wr := [(h0, .inr (4, [.ref wy, .int wl_, .int (nI ps), .int sta, .int hp, .int fd, .int pe, .int at_, .int go, .int tu, .int wa, .int ce, .int wt, .int un, .int fu, .int dr])), (wy, .inl (E.2.1 0, 8, .inl fy))]) (w1 := []) hP hD [] [0, 1] rfl rfl (by decide) (by decide) hk1 hFc hP1 hD1
  generalize H1 = H at hP hS ⊢
  have hP : va_P E.1 vwCl [(h0, .inr (4, [.ref wy, .int wl_, .int (nI ps), .int sta, .int hp, .int fd, .int pe, .int at_, .int go, .int tu, .int wa, .int ce, .int wt, .int un, .int fu, .int dr])), (wy, .inl (E.2.1 0, 8, .inl fy))] H := hP
  have hD : va_D A [(h0, .inr (4, [.ref wy, .int wl_, .int (nI ps), .int sta, .int hp, .int fd, .int pe, .int at_, .int go, .int tu, .int wa, .int ce, .int wt, .int un, .int fu, .int dr])), (wy, .inl (E.2.1 0, 8, .inl fy))] := hD
  refine lv_aload_n hx hb dX4_columnSign_7 rfl (lv_at hl 0 rfl) ?_
  refine va_get (D := E.1) (ci := 4) (v := .int at_) (C := RX4) (T := TX4) (N := 16) hx hb hts inX4 hown hK hP 0 rfl rfl 7 (by decide) fl34 (fun _ h9 => h9) rfl dX4_columnSign_8 ?_
  have hPc := hP.sub (ws' := []) [] rfl
  have hDc := hD.sub (ws' := []) [] (by decide) rfl
  have hFc := va_free (wc := []) hD hS hA [] rfl
  refine va_calli (va_runSN (As := [.int at_]) (rest := [.int r_3]) ⟨hx, hb, hml, hown, hts⟩ (c_X11_columnOf l E at_ H.size ) ⟨va_cnB 1 hts gX4_columnSign_X11_columnOf_n159 rfl rfl rfl (hkn.2.1 (.methodLinkNest RX4 159 yX11_columnOf "BoatsHome") (by decide +kernel)) (hts (.initialized RX11) (by first | exact List.mem_of_getElem? (i := 10) rfl | decide +kernel)) (by decide +kernel) ⟨Nat.le_of_ble_eq_true rfl, Nat.le_of_ble_eq_true rfl⟩, hts (.static yX11_columnOf) (by first | exact List.mem_of_getElem? (i := 12) rfl | decide +kernel), trivial⟩ ⟨pcW_blind, (pcW_pre hPc hkn hDc hst hS hFc)⟩ rfl rfl hl.1 rfl (lv_room (Nat.le_of_ble_eq_true rfl)) dX4_columnSign_11 ⟨Nat.le_of_ble_eq_true rfl, Nat.le_of_ble_eq_true rfl⟩) hS (fun q _ h => hFc q h) hFc (fun r_5 u t H1 locs ht hvm hw_6 hB hz1 hk1 hS => ?_)
  obtain ⟨hP1, hD1⟩ := hB
  rw [ht] at hP1
  try dsimp only at hw_6
  obtain ⟨hP, hD⟩ := va_join (wr := [(h0, .inr (4, [.ref wy, .int wl_, .int (nI ps), .int sta, .int hp, .int fd, .int pe, .int at_, .int go, .int tu, .int wa, .int ce, .int wt, .int un, .int fu, .int dr])), (wy, .inl (E.2.1 0, 8, .inl fy))]) (w1 := []) hP hD [] [0, 1] rfl rfl (by decide) (by decide) hk1 hFc hP1 hD1
  generalize H1 = H at hP hS ⊢
  have hP : va_P E.1 vwCl [(h0, .inr (4, [.ref wy, .int wl_, .int (nI ps), .int sta, .int hp, .int fd, .int pe, .int at_, .int go, .int tu, .int wa, .int ce, .int wt, .int un, .int fu, .int dr])), (wy, .inl (E.2.1 0, 8, .inl fy))] H := hP
  have hD : va_D A [(h0, .inr (4, [.ref wy, .int wl_, .int (nI ps), .int sta, .int hp, .int fd, .int pe, .int at_, .int go, .int tu, .int wa, .int ce, .int wt, .int un, .int fu, .int dr])), (wy, .inl (E.2.1 0, 8, .inl fy))] := hD
  have hPc := hP.sub (ws' := []) [] rfl
  have hDc := hD.sub (ws' := []) [] (by decide) rfl
  have hFc := va_free (wc := []) hD hS hA [] rfl
  refine va_calli (va_runS (As := [.int r_3, .int r_5]) (rest := []) ⟨hx, hb, hml, hown, hts⟩ (c_J6_compare_7cf53 l E r_3 r_5 H.size ) (va_cwS 2 hts gX4_columnSign_J6_compare_7cf53 rfl rfl rfl hdS_J6_compare_7cf53 ⟨Nat.le_of_ble_eq_true rfl, Nat.le_of_ble_eq_true rfl⟩) ⟨pcW_blind, (pcW_pre hPc hkn hDc hst hS hFc)⟩ rfl rfl hl.1 rfl (lv_room (Nat.le_of_ble_eq_true rfl)) dX4_columnSign_14 ⟨Nat.le_of_ble_eq_true rfl, Nat.le_of_ble_eq_true rfl⟩) hS (fun q _ h => hFc q h) hFc (fun r_7 u t H1 locs ht hvm hw_8 hB hz1 hk1 hS => ?_)
  obtain ⟨hP1, hD1⟩ := hB
  rw [ht] at hP1
  try dsimp only at hw_8
  obtain ⟨hP, hD⟩ := va_join (wr := [(h0, .inr (4, [.ref wy, .int wl_, .int (nI ps), .int sta, .int hp, .int fd, .int pe, .int at_, .int go, .int tu, .int wa, .int ce, .int wt, .int un, .int fu, .int dr])), (wy, .inl (E.2.1 0, 8, .inl fy))]) (w1 := []) hP hD [] [0, 1] rfl rfl (by decide) (by decide) hk1 hFc hP1 hD1
  generalize H1 = H at hP hS ⊢
  have hP : va_P E.1 vwCl [(h0, .inr (4, [.ref wy, .int wl_, .int (nI ps), .int sta, .int hp, .int fd, .int pe, .int at_, .int go, .int tu, .int wa, .int ce, .int wt, .int un, .int fu, .int dr])), (wy, .inl (E.2.1 0, 8, .inl fy))] H := hP
  have hD : va_D A [(h0, .inr (4, [.ref wy, .int wl_, .int (nI ps), .int sta, .int hp, .int fd, .int pe, .int at_, .int go, .int tu, .int wa, .int ce, .int wt, .int un, .int fu, .int dr])), (wy, .inl (E.2.1 0, 8, .inl fy))] := hD
  have hP9 := hP.sub (ws' := [(h0, .inr (4, [.ref wy, .int wl_, .int (nI ps), .int sta, .int hp, .int fd, .int pe, .int at_, .int go, .int tu, .int wa, .int ce, .int wt, .int un, .int fu, .int dr])), (wy, .inl (E.2.1 0, 8, .inl fy))]) [0, 1] rfl
  have hD9 := hD.sub (ws' := [(h0, .inr (4, [.ref wy, .int wl_, .int (nI ps), .int sta, .int hp, .int fd, .int pe, .int at_, .int go, .int tu, .int wa, .int ce, .int wt, .int un, .int fu, .int dr])), (wy, .inl (E.2.1 0, 8, .inl fy))]) [0, 1] (by decide) rfl
  exact W.iret (v := r_7) hx hb hr (fun t ht hW => ⟨⟨r_7, (), rfl, trivial, by rw [ht]; exact hP9, hD9⟩, hS.F ht⟩) hS.2.2 dX4_columnSign_17
set_option maxHeartbeats 4000000 in
set_option maxRecDepth 100000 in
theorem c_X4_rowSign (l : Launch) (E : vE) (h0 : Nat) (wy : Nat) (ps : Nat) (wl_ : Int32) (sta : Int32) (hp : Int32) (fd : Int32) (pe : Int32) (at_ : Int32) (go : Int32) (tu : Int32) (wa : Int32) (ce : Int32) (wt : Int32) (un : Int32) (fu : Int32) (dr : Int32) (fy : Nat → Int32) (sz : Nat) : Met l yX4_rowSign wsX4_rowSign ({ frames := 2, cells := 0, slots := 0, locals := 41 }) (pcW E [.ref h0] sz [(h0, .inr (4, [.ref wy, .int wl_, .int (nI ps), .int sta, .int hp, .int fd, .int pe, .int at_, .int go, .int tu, .int wa, .int ce, .int wt, .int un, .int fu, .int dr])), (wy, .inl (E.2.1 0, 8, .inl fy))]) (va_Qi (fun (r : Int32) (_ : Unit) => True) (fun (_ : Unit) (t : State) => wB E (va_A [(h0, .inr (4, [.ref wy, .int wl_, .int (nI ps), .int sta, .int hp, .int fd, .int pe, .int at_, .int go, .int tu, .int wa, .int ce, .int wt, .int un, .int fu, .int dr])), (wy, .inl (E.2.1 0, 8, .inl fy))] sz) [(h0, .inr (4, [.ref wy, .int wl_, .int (nI ps), .int sta, .int hp, .int fd, .int pe, .int at_, .int go, .int tu, .int wa, .int ce, .int wt, .int un, .int fu, .int dr])), (wy, .inl (E.2.1 0, 8, .inl fy))] t) (va_A [(h0, .inr (4, [.ref wy, .int wl_, .int (nI ps), .int sta, .int hp, .int fd, .int pe, .int at_, .int go, .int tu, .int wa, .int ce, .int wt, .int un, .int fu, .int dr])), (wy, .inl (E.2.1 0, 8, .inl fy))] sz)) 0 0 (va_A [(h0, .inr (4, [.ref wy, .int wl_, .int (nI ps), .int sta, .int hp, .int fd, .int pe, .int at_, .int go, .int tu, .int wa, .int ce, .int wt, .int un, .int fu, .int dr])), (wy, .inl (E.2.1 0, 8, .inl fy))] sz) := by
  refine Met.ofW (cc := cX4_rowSign) (maxL := 1) (ret := (some .int)) (by decide) rfl ?_
  intro p e s m args below meth c s₁ B hml hv
  obtain ⟨rfl, hsz, hP, hkn, hD0, hst⟩ := hv
  have hx := B.exec
  have hb := B.bytes
  have hr := B.returns
  have hts := atoms_spec (ws := wsX4_rowSign) B.pre
  have hown : s.vm.findClass RX4 = some m.cls := findClass_of_methodNamed B.named
  have hlocks := B.notSynchronized
  subst hsz
  have hD := hD0.self (sz := s.heap.size)
  have hK := hkn.1
  have hAO := hkn.2.2.1
  generalize hAe : va_A [(h0, .inr (4, [.ref wy, .int wl_, .int (nI ps), .int sta, .int hp, .int fd, .int pe, .int at_, .int go, .int tu, .int wa, .int ce, .int wt, .int un, .int fu, .int dr])), (wy, .inl (E.2.1 0, 8, .inl fy))] s.heap.size = A at hD hst ⊢
  have hA : ∀ q : Nat, s.heap.size ≤ q → A q := fun q h => by rw [← hAe]; exact Or.inr h
  have hS : va_S A s.heap s.heap [] := va_S.rf
  have hP : va_P E.1 vwCl [(h0, .inr (4, [.ref wy, .int wl_, .int (nI ps), .int sta, .int hp, .int fd, .int pe, .int at_, .int go, .int tu, .int wa, .int ce, .int wt, .int un, .int fu, .int dr])), (wy, .inl (E.2.1 0, 8, .inl fy))] s.heap := hP
  have hl := lv_entry ([.ref h0]) (n := 1) (Nat.le_of_ble_eq_true rfl)
  rw [lg_entry_eq]
  generalize (lg_sl ([.ref h0]) ++ List.replicate (1 - (lg_sl ([.ref h0])).length) Slot.unset).toArray = ls at hl ⊢
  have hl : lv_has ls 1 [(0, .ref h0)] := hl
  have fl34 := hts (.fieldLink RX4 34 "BoatsHome$Passage" "at" "I") (by first | exact List.mem_of_getElem? (i := 1) rfl | decide +kernel)
  have inX4 : ∀ w ∈ u_ws RX4 TX4 16, w ∈ wsX4_rowSign := by first | exact fun w h9 => (List.mem_cons_of_mem _ (List.mem_append_right _ h9)) | decide +kernel
  refine lv_aload_n hx hb dX4_rowSign_0 rfl (lv_at hl 0 rfl) ?_
  have hPc := hP.sub (ws' := [(h0, .inr (4, [.ref wy, .int wl_, .int (nI ps), .int sta, .int hp, .int fd, .int pe, .int at_, .int go, .int tu, .int wa, .int ce, .int wt, .int un, .int fu, .int dr])), (wy, .inl (E.2.1 0, 8, .inl fy))]) [0, 1] rfl
  have hDc := hD.sub (ws' := [(h0, .inr (4, [.ref wy, .int wl_, .int (nI ps), .int sta, .int hp, .int fd, .int pe, .int at_, .int go, .int tu, .int wa, .int ce, .int wt, .int un, .int fu, .int dr])), (wy, .inl (E.2.1 0, 8, .inl fy))]) [0, 1] (by decide) rfl
  have hFc := va_free (wc := [(h0, .inr (4, [.ref wy, .int wl_, .int (nI ps), .int sta, .int hp, .int fd, .int pe, .int at_, .int go, .int tu, .int wa, .int ce, .int wt, .int un, .int fu, .int dr])), (wy, .inl (E.2.1 0, 8, .inl fy))]) hD hS hA [0, 1] rfl
  refine va_calli (va_runV (As := []) (rest := []) ⟨hx, hb, hml, hown, hts⟩ (c_X4_nextPlace l E h0 wy ps wl_ sta hp fd pe at_ go tu wa ce wt un fu dr fy s.heap.size ) (cwV 0 hts gX4_rowSign_X4_nextPlace rfl rfl rfl hdV_X4_nextPlace ⟨Nat.le_of_ble_eq_true rfl, Nat.le_of_ble_eq_true rfl⟩) ⟨pcW_blind, va_recv hK hPc (ci := 4) (q0 := 0) rfl rfl, (pcW_pre hPc hkn hDc hst hS hFc)⟩ rfl rfl hl.1 rfl (lv_room (Nat.le_of_ble_eq_true rfl)) dX4_rowSign_1 ⟨Nat.le_of_ble_eq_true rfl, Nat.le_of_ble_eq_true rfl⟩) hS (fun q _ h => hFc q h) hFc (fun r_1 u t H1 locs ht hvm hw_2 hB hz1 hk1 hS => ?_)
  obtain ⟨hP1, hD1⟩ := hB
  rw [ht] at hP1
  try dsimp only at hw_2
  obtain ⟨hP, hD⟩ := va_join (wr := []) (w1 := [(h0, .inr (4, [.ref wy, .int wl_, .int (nI ps), .int sta, .int hp, .int fd, .int pe, .int at_, .int go, .int tu, .int wa, .int ce, .int wt, .int un, .int fu, .int dr])), (wy, .inl (E.2.1 0, 8, .inl fy))]) hP hD [0, 1] [] rfl rfl (by decide) (by decide) hk1 hFc hP1 hD1
  generalize H1 = H at hP hS ⊢
  have hP : va_P E.1 vwCl [(h0, .inr (4, [.ref wy, .int wl_, .int (nI ps), .int sta, .int hp, .int fd, .int pe, .int at_, .int go, .int tu, .int wa, .int ce, .int wt, .int un, .int fu, .int dr])), (wy, .inl (E.2.1 0, 8, .inl fy))] H := hP
  have hD : va_D A [(h0, .inr (4, [.ref wy, .int wl_, .int (nI ps), .int sta, .int hp, .int fd, .int pe, .int at_, .int go, .int tu, .int wa, .int ce, .int wt, .int un, .int fu, .int dr])), (wy, .inl (E.2.1 0, 8, .inl fy))] := hD
  have hPc := hP.sub (ws' := []) [] rfl
  have hDc := hD.sub (ws' := []) [] (by decide) rfl
  have hFc := va_free (wc := []) hD hS hA [] rfl
  refine va_calli (va_runSN (As := [.int r_1]) (rest := []) ⟨hx, hb, hml, hown, hts⟩ (c_X11_rowOf l E r_1 H.size ) ⟨va_cnB 1 hts gX4_rowSign_X11_rowOf_n167 rfl rfl rfl (hkn.2.1 (.methodLinkNest RX4 167 yX11_rowOf "BoatsHome") (by decide +kernel)) (hts (.initialized RX11) (by first | exact List.mem_of_getElem? (i := 10) rfl | decide +kernel)) (by decide +kernel) ⟨Nat.le_of_ble_eq_true rfl, Nat.le_of_ble_eq_true rfl⟩, hts (.static yX11_rowOf) (by first | exact List.mem_of_getElem? (i := 12) rfl | decide +kernel), trivial⟩ ⟨pcW_blind, (pcW_pre hPc hkn hDc hst hS hFc)⟩ rfl rfl hl.1 rfl (lv_room (Nat.le_of_ble_eq_true rfl)) dX4_rowSign_4 ⟨Nat.le_of_ble_eq_true rfl, Nat.le_of_ble_eq_true rfl⟩) hS (fun q _ h => hFc q h) hFc (fun r_3 u t H1 locs ht hvm hw_4 hB hz1 hk1 hS => ?_)
  obtain ⟨hP1, hD1⟩ := hB
  rw [ht] at hP1
  try dsimp only at hw_4
  obtain ⟨hP, hD⟩ := va_join (wr := [(h0, .inr (4, [.ref wy, .int wl_, .int (nI ps), .int sta, .int hp, .int fd, .int pe, .int at_, .int go, .int tu, .int wa, .int ce, .int wt, .int un, .int fu, .int dr])), (wy, .inl (E.2.1 0, 8, .inl fy))]) (w1 := []) hP hD [] [0, 1] rfl rfl (by decide) (by decide) hk1 hFc hP1 hD1
  generalize H1 = H at hP hS ⊢
  have hP : va_P E.1 vwCl [(h0, .inr (4, [.ref wy, .int wl_, .int (nI ps), .int sta, .int hp, .int fd, .int pe, .int at_, .int go, .int tu, .int wa, .int ce, .int wt, .int un, .int fu, .int dr])), (wy, .inl (E.2.1 0, 8, .inl fy))] H := hP
  have hD : va_D A [(h0, .inr (4, [.ref wy, .int wl_, .int (nI ps), .int sta, .int hp, .int fd, .int pe, .int at_, .int go, .int tu, .int wa, .int ce, .int wt, .int un, .int fu, .int dr])), (wy, .inl (E.2.1 0, 8, .inl fy))] := hD
  refine lv_aload_n hx hb dX4_rowSign_7 rfl (lv_at hl 0 rfl) ?_
  refine va_get (D := E.1) (ci := 4) (v := .int at_) (C := RX4) (T := TX4) (N := 16) hx hb hts inX4 hown hK hP 0 rfl rfl 7 (by decide) fl34 (fun _ h9 => h9) rfl dX4_rowSign_8 ?_
  have hPc := hP.sub (ws' := []) [] rfl
  have hDc := hD.sub (ws' := []) [] (by decide) rfl
  have hFc := va_free (wc := []) hD hS hA [] rfl
  refine va_calli (va_runSN (As := [.int at_]) (rest := [.int r_3]) ⟨hx, hb, hml, hown, hts⟩ (c_X11_rowOf l E at_ H.size ) ⟨va_cnB 1 hts gX4_rowSign_X11_rowOf_n167 rfl rfl rfl (hkn.2.1 (.methodLinkNest RX4 167 yX11_rowOf "BoatsHome") (by decide +kernel)) (hts (.initialized RX11) (by first | exact List.mem_of_getElem? (i := 10) rfl | decide +kernel)) (by decide +kernel) ⟨Nat.le_of_ble_eq_true rfl, Nat.le_of_ble_eq_true rfl⟩, hts (.static yX11_rowOf) (by first | exact List.mem_of_getElem? (i := 12) rfl | decide +kernel), trivial⟩ ⟨pcW_blind, (pcW_pre hPc hkn hDc hst hS hFc)⟩ rfl rfl hl.1 rfl (lv_room (Nat.le_of_ble_eq_true rfl)) dX4_rowSign_11 ⟨Nat.le_of_ble_eq_true rfl, Nat.le_of_ble_eq_true rfl⟩) hS (fun q _ h => hFc q h) hFc (fun r_5 u t H1 locs ht hvm hw_6 hB hz1 hk1 hS => ?_)
  obtain ⟨hP1, hD1⟩ := hB
  rw [ht] at hP1
  try dsimp only at hw_6
  obtain ⟨hP, hD⟩ := va_join (wr := [(h0, .inr (4, [.ref wy, .int wl_, .int (nI ps), .int sta, .int hp, .int fd, .int pe, .int at_, .int go, .int tu, .int wa, .int ce, .int wt, .int un, .int fu, .int dr])), (wy, .inl (E.2.1 0, 8, .inl fy))]) (w1 := []) hP hD [] [0, 1] rfl rfl (by decide) (by decide) hk1 hFc hP1 hD1
  generalize H1 = H at hP hS ⊢
  have hP : va_P E.1 vwCl [(h0, .inr (4, [.ref wy, .int wl_, .int (nI ps), .int sta, .int hp, .int fd, .int pe, .int at_, .int go, .int tu, .int wa, .int ce, .int wt, .int un, .int fu, .int dr])), (wy, .inl (E.2.1 0, 8, .inl fy))] H := hP
  have hD : va_D A [(h0, .inr (4, [.ref wy, .int wl_, .int (nI ps), .int sta, .int hp, .int fd, .int pe, .int at_, .int go, .int tu, .int wa, .int ce, .int wt, .int un, .int fu, .int dr])), (wy, .inl (E.2.1 0, 8, .inl fy))] := hD
  have hPc := hP.sub (ws' := []) [] rfl
  have hDc := hD.sub (ws' := []) [] (by decide) rfl
  have hFc := va_free (wc := []) hD hS hA [] rfl
  refine va_calli (va_runS (As := [.int r_3, .int r_5]) (rest := []) ⟨hx, hb, hml, hown, hts⟩ (c_J6_compare_7cf53 l E r_3 r_5 H.size ) (va_cwS 2 hts gX4_rowSign_J6_compare_7cf53 rfl rfl rfl hdS_J6_compare_7cf53 ⟨Nat.le_of_ble_eq_true rfl, Nat.le_of_ble_eq_true rfl⟩) ⟨pcW_blind, (pcW_pre hPc hkn hDc hst hS hFc)⟩ rfl rfl hl.1 rfl (lv_room (Nat.le_of_ble_eq_true rfl)) dX4_rowSign_14 ⟨Nat.le_of_ble_eq_true rfl, Nat.le_of_ble_eq_true rfl⟩) hS (fun q _ h => hFc q h) hFc (fun r_7 u t H1 locs ht hvm hw_8 hB hz1 hk1 hS => ?_)
  obtain ⟨hP1, hD1⟩ := hB
  rw [ht] at hP1
  try dsimp only at hw_8
  obtain ⟨hP, hD⟩ := va_join (wr := [(h0, .inr (4, [.ref wy, .int wl_, .int (nI ps), .int sta, .int hp, .int fd, .int pe, .int at_, .int go, .int tu, .int wa, .int ce, .int wt, .int un, .int fu, .int dr])), (wy, .inl (E.2.1 0, 8, .inl fy))]) (w1 := []) hP hD [] [0, 1] rfl rfl (by decide) (by decide) hk1 hFc hP1 hD1
  generalize H1 = H at hP hS ⊢
  have hP : va_P E.1 vwCl [(h0, .inr (4, [.ref wy, .int wl_, .int (nI ps), .int sta, .int hp, .int fd, .int pe, .int at_, .int go, .int tu, .int wa, .int ce, .int wt, .int un, .int fu, .int dr])), (wy, .inl (E.2.1 0, 8, .inl fy))] H := hP
  have hD : va_D A [(h0, .inr (4, [.ref wy, .int wl_, .int (nI ps), .int sta, .int hp, .int fd, .int pe, .int at_, .int go, .int tu, .int wa, .int ce, .int wt, .int un, .int fu, .int dr])), (wy, .inl (E.2.1 0, 8, .inl fy))] := hD
  have hP9 := hP.sub (ws' := [(h0, .inr (4, [.ref wy, .int wl_, .int (nI ps), .int sta, .int hp, .int fd, .int pe, .int at_, .int go, .int tu, .int wa, .int ce, .int wt, .int un, .int fu, .int dr])), (wy, .inl (E.2.1 0, 8, .inl fy))]) [0, 1] rfl
  have hD9 := hD.sub (ws' := [(h0, .inr (4, [.ref wy, .int wl_, .int (nI ps), .int sta, .int hp, .int fd, .int pe, .int at_, .int go, .int tu, .int wa, .int ce, .int wt, .int un, .int fu, .int dr])), (wy, .inl (E.2.1 0, 8, .inl fy))]) [0, 1] (by decide) rfl
  exact W.iret (v := r_7) hx hb hr (fun t ht hW => ⟨⟨r_7, (), rfl, trivial, by rw [ht]; exact hP9, hD9⟩, hS.F ht⟩) hS.2.2 dX4_rowSign_17
set_option maxHeartbeats 4000000 in
set_option maxRecDepth 100000 in
theorem c_X4_course (l : Launch) (E : vE) (h0 : Nat) (wy : Nat) (ps : Nat) (wl_ : Int32) (sta : Int32) (hp : Int32) (fd : Int32) (pe : Int32) (at_ : Int32) (go : Int32) (tu : Int32) (wa : Int32) (ce : Int32) (wt : Int32) (un : Int32) (fu : Int32) (dr : Int32) (fy : Nat → Int32) (sz : Nat) : Met l yX4_course wsX4_course ({ frames := 3, cells := 0, slots := 0, locals := 61 }) (pcW E [.ref h0] sz [(h0, .inr (4, [.ref wy, .int wl_, .int (nI ps), .int sta, .int hp, .int fd, .int pe, .int at_, .int go, .int tu, .int wa, .int ce, .int wt, .int un, .int fu, .int dr])), (wy, .inl (E.2.1 0, 8, .inl fy))]) (va_Qi (fun (r : Int32) (_ : Unit) => True) (fun (_ : Unit) (t : State) => wB E (va_A [(h0, .inr (4, [.ref wy, .int wl_, .int (nI ps), .int sta, .int hp, .int fd, .int pe, .int at_, .int go, .int tu, .int wa, .int ce, .int wt, .int un, .int fu, .int dr])), (wy, .inl (E.2.1 0, 8, .inl fy))] sz) [(h0, .inr (4, [.ref wy, .int wl_, .int (nI ps), .int sta, .int hp, .int fd, .int pe, .int at_, .int go, .int tu, .int wa, .int ce, .int wt, .int un, .int fu, .int dr])), (wy, .inl (E.2.1 0, 8, .inl fy))] t) (va_A [(h0, .inr (4, [.ref wy, .int wl_, .int (nI ps), .int sta, .int hp, .int fd, .int pe, .int at_, .int go, .int tu, .int wa, .int ce, .int wt, .int un, .int fu, .int dr])), (wy, .inl (E.2.1 0, 8, .inl fy))] sz)) 0 0 (va_A [(h0, .inr (4, [.ref wy, .int wl_, .int (nI ps), .int sta, .int hp, .int fd, .int pe, .int at_, .int go, .int tu, .int wa, .int ce, .int wt, .int un, .int fu, .int dr])), (wy, .inl (E.2.1 0, 8, .inl fy))] sz) := by
  refine Met.ofW (cc := cX4_course) (maxL := 2) (ret := (some .int)) (by decide) rfl ?_
  intro p e s m args below meth c s₁ B hml hv
  obtain ⟨rfl, hsz, hP, hkn, hD0, hst⟩ := hv
  have hx := B.exec
  have hb := B.bytes
  have hr := B.returns
  have hts := atoms_spec (ws := wsX4_course) B.pre
  have hown : s.vm.findClass RX4 = some m.cls := findClass_of_methodNamed B.named
  have hlocks := B.notSynchronized
  subst hsz
  have hD := hD0.self (sz := s.heap.size)
  have hK := hkn.1
  have hAO := hkn.2.2.1
  generalize hAe : va_A [(h0, .inr (4, [.ref wy, .int wl_, .int (nI ps), .int sta, .int hp, .int fd, .int pe, .int at_, .int go, .int tu, .int wa, .int ce, .int wt, .int un, .int fu, .int dr])), (wy, .inl (E.2.1 0, 8, .inl fy))] s.heap.size = A at hD hst ⊢
  have hA : ∀ q : Nat, s.heap.size ≤ q → A q := fun q h => by rw [← hAe]; exact Or.inr h
  have hS : va_S A s.heap s.heap [] := va_S.rf
  have hP : va_P E.1 vwCl [(h0, .inr (4, [.ref wy, .int wl_, .int (nI ps), .int sta, .int hp, .int fd, .int pe, .int at_, .int go, .int tu, .int wa, .int ce, .int wt, .int un, .int fu, .int dr])), (wy, .inl (E.2.1 0, 8, .inl fy))] s.heap := hP
  have hl := lv_entry ([.ref h0]) (n := 2) (Nat.le_of_ble_eq_true rfl)
  rw [lg_entry_eq]
  generalize (lg_sl ([.ref h0]) ++ List.replicate (2 - (lg_sl ([.ref h0])).length) Slot.unset).toArray = ls at hl ⊢
  have hl : lv_has ls 2 [(0, .ref h0)] := hl
  refine lv_iconst (v := 3) hx hb dX4_course_0 (by decide) ?_
  refine lv_aload_n hx hb dX4_course_1 rfl (lv_at hl 0 rfl) ?_
  have hPc := hP.sub (ws' := [(h0, .inr (4, [.ref wy, .int wl_, .int (nI ps), .int sta, .int hp, .int fd, .int pe, .int at_, .int go, .int tu, .int wa, .int ce, .int wt, .int un, .int fu, .int dr])), (wy, .inl (E.2.1 0, 8, .inl fy))]) [0, 1] rfl
  have hDc := hD.sub (ws' := [(h0, .inr (4, [.ref wy, .int wl_, .int (nI ps), .int sta, .int hp, .int fd, .int pe, .int at_, .int go, .int tu, .int wa, .int ce, .int wt, .int un, .int fu, .int dr])), (wy, .inl (E.2.1 0, 8, .inl fy))]) [0, 1] (by decide) rfl
  have hFc := va_free (wc := [(h0, .inr (4, [.ref wy, .int wl_, .int (nI ps), .int sta, .int hp, .int fd, .int pe, .int at_, .int go, .int tu, .int wa, .int ce, .int wt, .int un, .int fu, .int dr])), (wy, .inl (E.2.1 0, 8, .inl fy))]) hD hS hA [0, 1] rfl
  refine va_calli (va_runV (As := []) (rest := [.int 3]) ⟨hx, hb, hml, hown, hts⟩ (c_X4_rowSign l E h0 wy ps wl_ sta hp fd pe at_ go tu wa ce wt un fu dr fy s.heap.size ) (cwV 0 hts gX4_course_X4_rowSign rfl rfl rfl hdV_X4_rowSign ⟨Nat.le_of_ble_eq_true rfl, Nat.le_of_ble_eq_true rfl⟩) ⟨pcW_blind, va_recv hK hPc (ci := 4) (q0 := 0) rfl rfl, (pcW_pre hPc hkn hDc hst hS hFc)⟩ rfl rfl hl.1 rfl (lv_room (Nat.le_of_ble_eq_true rfl)) dX4_course_2 ⟨Nat.le_of_ble_eq_true rfl, Nat.le_of_ble_eq_true rfl⟩) hS (fun q _ h => hFc q h) hFc (fun r_1 u t H1 locs ht hvm hw_2 hB hz1 hk1 hS => ?_)
  obtain ⟨hP1, hD1⟩ := hB
  rw [ht] at hP1
  try dsimp only at hw_2
  obtain ⟨hP, hD⟩ := va_join (wr := []) (w1 := [(h0, .inr (4, [.ref wy, .int wl_, .int (nI ps), .int sta, .int hp, .int fd, .int pe, .int at_, .int go, .int tu, .int wa, .int ce, .int wt, .int un, .int fu, .int dr])), (wy, .inl (E.2.1 0, 8, .inl fy))]) hP hD [0, 1] [] rfl rfl (by decide) (by decide) hk1 hFc hP1 hD1
  generalize H1 = H at hP hS ⊢
  have hP : va_P E.1 vwCl [(h0, .inr (4, [.ref wy, .int wl_, .int (nI ps), .int sta, .int hp, .int fd, .int pe, .int at_, .int go, .int tu, .int wa, .int ce, .int wt, .int un, .int fu, .int dr])), (wy, .inl (E.2.1 0, 8, .inl fy))] H := hP
  have hD : va_D A [(h0, .inr (4, [.ref wy, .int wl_, .int (nI ps), .int sta, .int hp, .int fd, .int pe, .int at_, .int go, .int tu, .int wa, .int ce, .int wt, .int un, .int fu, .int dr])), (wy, .inl (E.2.1 0, 8, .inl fy))] := hD
  refine lv_iconst (v := 1) hx hb dX4_course_5 (by decide) ?_
  refine lv_iadd hx hb dX4_course_6 ?_
  refine lv_topi (fun x_3 ex_3 => ?_)
  refine lv_imul hx hb dX4_course_7 ?_
  refine lv_topi (fun x_4 ex_4 => ?_)
  refine lv_aload_n hx hb dX4_course_8 rfl (lv_at hl 0 rfl) ?_
  have hPc := hP.sub (ws' := [(h0, .inr (4, [.ref wy, .int wl_, .int (nI ps), .int sta, .int hp, .int fd, .int pe, .int at_, .int go, .int tu, .int wa, .int ce, .int wt, .int un, .int fu, .int dr])), (wy, .inl (E.2.1 0, 8, .inl fy))]) [0, 1] rfl
  have hDc := hD.sub (ws' := [(h0, .inr (4, [.ref wy, .int wl_, .int (nI ps), .int sta, .int hp, .int fd, .int pe, .int at_, .int go, .int tu, .int wa, .int ce, .int wt, .int un, .int fu, .int dr])), (wy, .inl (E.2.1 0, 8, .inl fy))]) [0, 1] (by decide) rfl
  have hFc := va_free (wc := [(h0, .inr (4, [.ref wy, .int wl_, .int (nI ps), .int sta, .int hp, .int fd, .int pe, .int at_, .int go, .int tu, .int wa, .int ce, .int wt, .int un, .int fu, .int dr])), (wy, .inl (E.2.1 0, 8, .inl fy))]) hD hS hA [0, 1] rfl
  refine va_calli (va_runV (As := []) (rest := [.int x_4]) ⟨hx, hb, hml, hown, hts⟩ (c_X4_columnSign l E h0 wy ps wl_ sta hp fd pe at_ go tu wa ce wt un fu dr fy H.size ) (cwV 0 hts gX4_course_X4_columnSign rfl rfl rfl hdV_X4_columnSign ⟨Nat.le_of_ble_eq_true rfl, Nat.le_of_ble_eq_true rfl⟩) ⟨pcW_blind, va_recv hK hPc (ci := 4) (q0 := 0) rfl rfl, (pcW_pre hPc hkn hDc hst hS hFc)⟩ rfl rfl hl.1 rfl (lv_room (Nat.le_of_ble_eq_true rfl)) dX4_course_9 ⟨Nat.le_of_ble_eq_true rfl, Nat.le_of_ble_eq_true rfl⟩) hS (fun q _ h => hFc q h) hFc (fun r_5 u t H1 locs ht hvm hw_6 hB hz1 hk1 hS => ?_)
  obtain ⟨hP1, hD1⟩ := hB
  rw [ht] at hP1
  try dsimp only at hw_6
  obtain ⟨hP, hD⟩ := va_join (wr := []) (w1 := [(h0, .inr (4, [.ref wy, .int wl_, .int (nI ps), .int sta, .int hp, .int fd, .int pe, .int at_, .int go, .int tu, .int wa, .int ce, .int wt, .int un, .int fu, .int dr])), (wy, .inl (E.2.1 0, 8, .inl fy))]) hP hD [0, 1] [] rfl rfl (by decide) (by decide) hk1 hFc hP1 hD1
  generalize H1 = H at hP hS ⊢
  have hP : va_P E.1 vwCl [(h0, .inr (4, [.ref wy, .int wl_, .int (nI ps), .int sta, .int hp, .int fd, .int pe, .int at_, .int go, .int tu, .int wa, .int ce, .int wt, .int un, .int fu, .int dr])), (wy, .inl (E.2.1 0, 8, .inl fy))] H := hP
  have hD : va_D A [(h0, .inr (4, [.ref wy, .int wl_, .int (nI ps), .int sta, .int hp, .int fd, .int pe, .int at_, .int go, .int tu, .int wa, .int ce, .int wt, .int un, .int fu, .int dr])), (wy, .inl (E.2.1 0, 8, .inl fy))] := hD
  refine lv_iadd hx hb dX4_course_12 ?_
  refine lv_topi (fun x_7 ex_7 => ?_)
  refine lv_iconst (v := 1) hx hb dX4_course_13 (by decide) ?_
  refine lv_iadd hx hb dX4_course_14 ?_
  refine lv_topi (fun x_8 ex_8 => ?_)
  refine lv_istore_n (lv' := [(1, .int x_8), (0, .ref h0)]) hx hb dX4_course_15 rfl hl (by decide) rfl (fun ls hl => ?_)
  refine lv_iload_n hx hb dX4_course_16 rfl (lv_at hl 0 rfl) ?_
  refine lv_bipush (v := 9) hx hb dX4_course_17 (by decide) ?_
  have hPc := hP.sub (ws' := []) [] rfl
  have hDc := hD.sub (ws' := []) [] (by decide) rfl
  have hFc := va_free (wc := []) hD hS hA [] rfl
  refine va_calli (va_runSN (As := [.int x_8, .int 9]) (rest := []) ⟨hx, hb, hml, hown, hts⟩ (c_X11_below l E x_8 9 8 H.size (lt_le (by decide))) ⟨va_cnB 2 hts gX4_course_X11_below_n62 rfl rfl rfl (hkn.2.1 (.methodLinkNest RX4 62 yX11_below "BoatsHome") (by decide +kernel)) (hts (.initialized RX11) (by first | exact List.mem_of_getElem? (i := 14) rfl | decide +kernel)) (by decide +kernel) ⟨Nat.le_of_ble_eq_true rfl, Nat.le_of_ble_eq_true rfl⟩, hts (.static yX11_below) (by first | exact List.mem_of_getElem? (i := 13) rfl | decide +kernel), trivial⟩ ⟨pcW_blind, (pcW_pre hPc hkn hDc hst hS hFc)⟩ rfl rfl hl.1 rfl (lv_room (Nat.le_of_ble_eq_true rfl)) dX4_course_19 ⟨Nat.le_of_ble_eq_true rfl, Nat.le_of_ble_eq_true rfl⟩) hS (fun q _ h => hFc q h) hFc (fun r_9 u t H1 locs ht hvm hw_10 hB hz1 hk1 hS => ?_)
  obtain ⟨hP1, hD1⟩ := hB
  rw [ht] at hP1
  try dsimp only at hw_10
  obtain ⟨hP, hD⟩ := va_join (wr := [(h0, .inr (4, [.ref wy, .int wl_, .int (nI ps), .int sta, .int hp, .int fd, .int pe, .int at_, .int go, .int tu, .int wa, .int ce, .int wt, .int un, .int fu, .int dr])), (wy, .inl (E.2.1 0, 8, .inl fy))]) (w1 := []) hP hD [] [0, 1] rfl rfl (by decide) (by decide) hk1 hFc hP1 hD1
  generalize H1 = H at hP hS ⊢
  have hP : va_P E.1 vwCl [(h0, .inr (4, [.ref wy, .int wl_, .int (nI ps), .int sta, .int hp, .int fd, .int pe, .int at_, .int go, .int tu, .int wa, .int ce, .int wt, .int un, .int fu, .int dr])), (wy, .inl (E.2.1 0, 8, .inl fy))] H := hP
  have hD : va_D A [(h0, .inr (4, [.ref wy, .int wl_, .int (nI ps), .int sta, .int hp, .int fd, .int pe, .int at_, .int go, .int tu, .int wa, .int ce, .int wt, .int un, .int fu, .int dr])), (wy, .inl (E.2.1 0, 8, .inl fy))] := hD
  refine lv_if_eq (tgt := 33) hx hb dX4_course_22 (by decide) (fun c_11 => ?_) (fun c_11 => ?_)
  · have b_12 : inR x_8 0 8 = false := bz hw_10 c_11
    refine lv_iconst (v := 0) hx hb dX4_course_33 (by decide) ?_
    have hP9 := hP.sub (ws' := [(h0, .inr (4, [.ref wy, .int wl_, .int (nI ps), .int sta, .int hp, .int fd, .int pe, .int at_, .int go, .int tu, .int wa, .int ce, .int wt, .int un, .int fu, .int dr])), (wy, .inl (E.2.1 0, 8, .inl fy))]) [0, 1] rfl
    have hD9 := hD.sub (ws' := [(h0, .inr (4, [.ref wy, .int wl_, .int (nI ps), .int sta, .int hp, .int fd, .int pe, .int at_, .int go, .int tu, .int wa, .int ce, .int wt, .int un, .int fu, .int dr])), (wy, .inl (E.2.1 0, 8, .inl fy))]) [0, 1] (by decide) rfl
    exact W.iret (v := 0) hx hb hr (fun t ht hW => ⟨⟨0, (), rfl, trivial, by rw [ht]; exact hP9, hD9⟩, hS.F ht⟩) hS.2.2 dX4_course_34
  · have b_13 : inR x_8 0 8 = true := bn hw_10 c_11
    obtain ⟨tz_14, hZtz_14, hTtz_14⟩ := hst.2.1
    refine va_getsN hx hb hZtz_14 hS hown (va_Nw.use rfl (hkn.2.1 (.fieldLinkNest RX4 153 "BoatsHome" "COURSES" "[I" "BoatsHome") (by decide +kernel))) (fun _ h9 => h9) dX4_course_25 ?_
    refine lv_iload_n hx hb dX4_course_28 rfl (lv_at hl 0 rfl) ?_
    have hi_15 : vp_in x_8 9 := inR_in (by decide) b_13
    refine va_ti (v := .int (sCn (x_8.toNatClampNeg))) hx hb hTtz_14 hS hi_15 (sCf_eq _) dX4_course_29 ?_
    refine lv_topi (fun x_16 ex_16 => ?_)
    refine lv_goto (tgt := 34) hx hb dX4_course_30 (by decide) ?_
    have hP9 := hP.sub (ws' := [(h0, .inr (4, [.ref wy, .int wl_, .int (nI ps), .int sta, .int hp, .int fd, .int pe, .int at_, .int go, .int tu, .int wa, .int ce, .int wt, .int un, .int fu, .int dr])), (wy, .inl (E.2.1 0, 8, .inl fy))]) [0, 1] rfl
    have hD9 := hD.sub (ws' := [(h0, .inr (4, [.ref wy, .int wl_, .int (nI ps), .int sta, .int hp, .int fd, .int pe, .int at_, .int go, .int tu, .int wa, .int ce, .int wt, .int un, .int fu, .int dr])), (wy, .inl (E.2.1 0, 8, .inl fy))]) [0, 1] (by decide) rfl
    exact W.iret (v := x_16) hx hb hr (fun t ht hW => ⟨⟨x_16, (), rfl, trivial, by rw [ht]; exact hP9, hD9⟩, hS.F ht⟩) hS.2.2 dX4_course_34
set_option maxHeartbeats 4000000 in
set_option maxRecDepth 100000 in
theorem lg_pass {p : Program} {l : Launch} {e : Env} {R : Room} {s : State} {m : MethodId} {args : Array Value} {below : List Frame} {meth : Method} {c : Code} {cells slots : Nat} {Q : State → Prop} {A : Nat → Prop} (E : vE) (h0 : Nat) (wy : Nat) (wl_ : Int32) (sta : Int32) (hp : Int32) (fd : Int32) (pe : Int32) (at_ : Int32) (go : Int32) (tu : Int32) (wa : Int32) (ce : Int32) (wt : Int32) (un : Int32) (fu : Int32) (dr : Int32) (fy : Nat → Int32) (hx : p.tables.exec = Jvm.exec) (hb : c.code = cX4_passPlaces) (hml : c.maxLocals = 1) (hown : s.vm.findClass RX4 = some m.cls) (hts : ∀ w ∈ wsX4_passPlaces, w.before args s = true) (hkn : kn E s) (hst : st E A s s.heap) (hA : ∀ q : Nat, s.heap.size ≤ q → A q) (kk : ∀ (ps : Nat) (H : Heap) (locs : List Loc) (ls : Array Slot), (ps ≤ 8) → va_P E.1 vwCl [(h0, .inr (4, [.ref wy, .int wl_, .int (nI ps), .int sta, .int hp, .int fd, .int pe, .int at_, .int go, .int tu, .int wa, .int ce, .int wt, .int un, .int fu, .int dr])), (wy, .inl (E.2.1 0, 8, .inl fy))] H → va_D A [(h0, .inr (4, [.ref wy, .int wl_, .int (nI ps), .int sta, .int hp, .int fd, .int pe, .int at_, .int go, .int tu, .int wa, .int ce, .int wt, .int un, .int fu, .int dr])), (wy, .inl (E.2.1 0, 8, .inl fy))] → va_S A s.heap H locs → lv_has ls 1 [(0, .ref h0)] → W p l e R s m args below meth c H locs cells slots Q (F0 m 49 ls [])) : ∀ (n0 : Nat) (ps : Nat) (H : Heap) (locs : List Loc) (ls : Array Slot), 8 - ps < n0 → (ps ≤ 8) → va_P E.1 vwCl [(h0, .inr (4, [.ref wy, .int wl_, .int (nI ps), .int sta, .int hp, .int fd, .int pe, .int at_, .int go, .int tu, .int wa, .int ce, .int wt, .int un, .int fu, .int dr])), (wy, .inl (E.2.1 0, 8, .inl fy))] H → va_D A [(h0, .inr (4, [.ref wy, .int wl_, .int (nI ps), .int sta, .int hp, .int fd, .int pe, .int at_, .int go, .int tu, .int wa, .int ce, .int wt, .int un, .int fu, .int dr])), (wy, .inl (E.2.1 0, 8, .inl fy))] → va_S A s.heap H locs → lv_has ls 1 [(0, .ref h0)] → W p l e R s m args below meth c H locs cells slots Q (F0 m 0 ls []) := by
  have hK := hkn.1
  have hAO := hkn.2.2.1
  have fl9 := hts (.fieldLink RX4 9 "BoatsHome$Passage" "way" "[I") (by first | exact List.mem_of_getElem? (i := 3) rfl | decide +kernel)
  have fl15 := hts (.fieldLink RX4 15 "BoatsHome$Passage" "wayLength" "I") (by first | exact List.mem_of_getElem? (i := 2) rfl | decide +kernel)
  have fl19 := hts (.fieldLink RX4 19 "BoatsHome$Passage" "passed" "I") (by first | exact List.mem_of_getElem? (i := 1) rfl | decide +kernel)
  have fl22 := hts (.fieldLink RX4 22 "BoatsHome$Passage" "state" "I") (by first | exact List.mem_of_getElem? (i := 5) rfl | decide +kernel)
  have fl34 := hts (.fieldLink RX4 34 "BoatsHome$Passage" "at" "I") (by first | exact List.mem_of_getElem? (i := 4) rfl | decide +kernel)
  have inX4 : ∀ w ∈ u_ws RX4 TX4 16, w ∈ wsX4_passPlaces := by first | exact fun w h9 => (List.mem_cons_of_mem _ (List.mem_append_right _ h9)) | decide +kernel
  intro n0
  induction n0 with
  | zero =>
    intro ps H locs ls hn0
    exact absurd hn0 (Nat.not_lt_zero _)
  | succ n0 ih =>
    intro ps H locs ls hn0 hps hP hD hS hl
    refine lv_aload_n hx hb dX4_passPlaces_0 rfl (lv_at hl 0 rfl) ?_
    refine va_get (D := E.1) (ci := 4) (v := .int (nI ps)) (C := RX4) (T := TX4) (N := 16) hx hb hts inX4 hown hK hP 0 rfl rfl 2 (by decide) fl19 (fun _ h9 => h9) rfl dX4_passPlaces_1 ?_
    refine lv_aload_n hx hb dX4_passPlaces_4 rfl (lv_at hl 0 rfl) ?_
    refine va_get (D := E.1) (ci := 4) (v := .int wl_) (C := RX4) (T := TX4) (N := 16) hx hb hts inX4 hown hK hP 0 rfl rfl 1 (by decide) fl15 (fun _ h9 => h9) rfl dX4_passPlaces_5 ?_
    refine lv_icmp_ge (tgt := 49) hx hb dX4_passPlaces_8 (by decide) (fun c_1 => ?_) (fun c_1 => ?_)
    · exact kk ps _ _ _ hps (hP.sub [0, 1] rfl) (hD.sub [0, 1] (by decide) rfl) hS (lv_sub hl [0] rfl)
    · refine lv_aload_n hx hb dX4_passPlaces_11 rfl (lv_at hl 0 rfl) ?_
      refine va_get (D := E.1) (ci := 4) (v := .int (nI ps)) (C := RX4) (T := TX4) (N := 16) hx hb hts inX4 hown hK hP 0 rfl rfl 2 (by decide) fl19 (fun _ h9 => h9) rfl dX4_passPlaces_12 ?_
      refine lv_bipush (v := 8) hx hb dX4_passPlaces_15 (by decide) ?_
      refine lv_icmp_ge (tgt := 49) hx hb dX4_passPlaces_17 (by decide) (fun c_2 => ?_) (fun c_2 => ?_)
      · exact kk ps _ _ _ hps (hP.sub [0, 1] rfl) (hD.sub [0, 1] (by decide) rfl) hS (lv_sub hl [0] rfl)
      · have hlt : ps < 8 := by
          rcases Nat.lt_or_ge ps 8 with q | q
          · exact q
          · exact absurd (show (8 : Int32) ≤ nI ps from nI_le (a := 8) q (by omega)) c_2
        refine lv_aload_n hx hb dX4_passPlaces_20 rfl (lv_at hl 0 rfl) ?_
        refine va_get (D := E.1) (ci := 4) (v := .ref wy) (C := RX4) (T := TX4) (N := 16) hx hb hts inX4 hown hK hP 0 rfl rfl 0 (by decide) fl9 (fun _ h9 => h9) rfl dX4_passPlaces_21 ?_
        refine lv_aload_n hx hb dX4_passPlaces_24 rfl (lv_at hl 0 rfl) ?_
        refine va_get (D := E.1) (ci := 4) (v := .int (nI ps)) (C := RX4) (T := TX4) (N := 16) hx hb hts inX4 hown hK hP 0 rfl rfl 2 (by decide) fl19 (fun _ h9 => h9) rfl dX4_passPlaces_25 ?_
        have hi_3 : vp_in (nI ps) 8 := vp_in_nI hlt (by decide)
        refine va_iald hx hb hK hP 1 0 rfl rfl hi_3 dX4_passPlaces_28 ?_
        refine lv_topi (fun x_4 ex_4 => ?_)
        refine lv_aload_n hx hb dX4_passPlaces_29 rfl (lv_at hl 0 rfl) ?_
        refine va_get (D := E.1) (ci := 4) (v := .int at_) (C := RX4) (T := TX4) (N := 16) hx hb hts inX4 hown hK hP 0 rfl rfl 7 (by decide) fl34 (fun _ h9 => h9) rfl dX4_passPlaces_30 ?_
        refine lv_icmp_ne (tgt := 49) hx hb dX4_passPlaces_33 (by decide) (fun c_5 => ?_) (fun c_5 => ?_)
        · exact kk ps _ _ _ hps (hP.sub [0, 1] rfl) (hD.sub [0, 1] (by decide) rfl) hS (lv_sub hl [0] rfl)
        · refine lv_aload_n hx hb dX4_passPlaces_36 rfl (lv_at hl 0 rfl) ?_
          refine lv_dup hx hb dX4_passPlaces_37 rfl ?_
          refine va_get (D := E.1) (ci := 4) (v := .int (nI ps)) (C := RX4) (T := TX4) (N := 16) hx hb hts inX4 hown hK hP 0 rfl rfl 2 (by decide) fl19 (fun _ h9 => h9) rfl dX4_passPlaces_38 ?_
          refine lv_iconst (v := 1) hx hb dX4_passPlaces_41 (by decide) ?_
          refine lv_iadd hx hb dX4_passPlaces_42 ?_
          refine lv_topi (fun x_6 ex_6 => ?_)
          obtain rfl : x_6 = nI (ps + 1) := ex_6.trans (nI_1 _)
          refine va_put (D := E.1) (ci := 4) (v := .int (nI (ps + 1))) (ty := .int) (C := RX4) (T := TX4) (N := 16) hx hb hts inX4 tyX4 tyX4_ok nmX4 hown hK hP hD hS 0 rfl rfl 2 (by decide) fl19 (fun _ h9 => h9) rfl (by decide +kernel) rfl rfl (Nat.le_of_ble_eq_true rfl) dX4_passPlaces_43 (fun H locs hP hD hS => ?_)
          have hP : va_P E.1 vwCl [(h0, .inr (4, [.ref wy, .int wl_, .int (nI (ps + 1)), .int sta, .int hp, .int fd, .int pe, .int at_, .int go, .int tu, .int wa, .int ce, .int wt, .int un, .int fu, .int dr])), (wy, .inl (E.2.1 0, 8, .inl fy))] H := hP
          have hD : va_D A [(h0, .inr (4, [.ref wy, .int wl_, .int (nI (ps + 1)), .int sta, .int hp, .int fd, .int pe, .int at_, .int go, .int tu, .int wa, .int ce, .int wt, .int un, .int fu, .int dr])), (wy, .inl (E.2.1 0, 8, .inl fy))] := hD
          refine lv_goto (tgt := 0) hx hb dX4_passPlaces_46 (by decide) ?_
          exact ih (ps + 1) _ _ _ (by omega) (by omega) (hP.sub [0, 1] rfl) (hD.sub [0, 1] (by decide) rfl) hS (lv_sub hl [0] rfl)
set_option maxHeartbeats 4000000 in
set_option maxRecDepth 100000 in
theorem c_X4_passPlaces (l : Launch) (E : vE) (h0 : Nat) (wy : Nat) (ps : Nat) (wl_ : Int32) (sta : Int32) (hp : Int32) (fd : Int32) (pe : Int32) (at_ : Int32) (go : Int32) (tu : Int32) (wa : Int32) (ce : Int32) (wt : Int32) (un : Int32) (fu : Int32) (dr : Int32) (fy : Nat → Int32) (sz : Nat) (hps : ps ≤ 8) : Met l yX4_passPlaces wsX4_passPlaces ({ frames := 0, cells := 0, slots := 0, locals := 0 }) (pcW E [.ref h0] sz [(h0, .inr (4, [.ref wy, .int wl_, .int (nI ps), .int sta, .int hp, .int fd, .int pe, .int at_, .int go, .int tu, .int wa, .int ce, .int wt, .int un, .int fu, .int dr])), (wy, .inl (E.2.1 0, 8, .inl fy))]) (va_Qv (fun (u : Nat × Int32) => match u with | (ps2, sta2) => True) (fun (u : Nat × Int32) (t : State) => match u with | (ps2, sta2) => (ps2 ≤ 8) ∧ wB E (va_A [(h0, .inr (4, [.ref wy, .int wl_, .int (nI ps), .int sta, .int hp, .int fd, .int pe, .int at_, .int go, .int tu, .int wa, .int ce, .int wt, .int un, .int fu, .int dr])), (wy, .inl (E.2.1 0, 8, .inl fy))] sz) [(h0, .inr (4, [.ref wy, .int wl_, .int (nI ps2), .int sta2, .int hp, .int fd, .int pe, .int at_, .int go, .int tu, .int wa, .int ce, .int wt, .int un, .int fu, .int dr])), (wy, .inl (E.2.1 0, 8, .inl fy))] t) (va_A [(h0, .inr (4, [.ref wy, .int wl_, .int (nI ps), .int sta, .int hp, .int fd, .int pe, .int at_, .int go, .int tu, .int wa, .int ce, .int wt, .int un, .int fu, .int dr])), (wy, .inl (E.2.1 0, 8, .inl fy))] sz)) 0 0 (va_A [(h0, .inr (4, [.ref wy, .int wl_, .int (nI ps), .int sta, .int hp, .int fd, .int pe, .int at_, .int go, .int tu, .int wa, .int ce, .int wt, .int un, .int fu, .int dr])), (wy, .inl (E.2.1 0, 8, .inl fy))] sz) := by
  refine Met.ofW (cc := cX4_passPlaces) (maxL := 1) (ret := none) (by decide) rfl ?_
  intro p e s m args below meth c s₁ B hml hv
  obtain ⟨rfl, hsz, hP, hkn, hD0, hst⟩ := hv
  have hx := B.exec
  have hb := B.bytes
  have hr := B.returns
  have hts := atoms_spec (ws := wsX4_passPlaces) B.pre
  have hown : s.vm.findClass RX4 = some m.cls := findClass_of_methodNamed B.named
  have hlocks := B.notSynchronized
  subst hsz
  have hD := hD0.self (sz := s.heap.size)
  have hK := hkn.1
  have hAO := hkn.2.2.1
  generalize hAe : va_A [(h0, .inr (4, [.ref wy, .int wl_, .int (nI ps), .int sta, .int hp, .int fd, .int pe, .int at_, .int go, .int tu, .int wa, .int ce, .int wt, .int un, .int fu, .int dr])), (wy, .inl (E.2.1 0, 8, .inl fy))] s.heap.size = A at hD hst ⊢
  have hA : ∀ q : Nat, s.heap.size ≤ q → A q := fun q h => by rw [← hAe]; exact Or.inr h
  have hS : va_S A s.heap s.heap [] := va_S.rf
  have hP : va_P E.1 vwCl [(h0, .inr (4, [.ref wy, .int wl_, .int (nI ps), .int sta, .int hp, .int fd, .int pe, .int at_, .int go, .int tu, .int wa, .int ce, .int wt, .int un, .int fu, .int dr])), (wy, .inl (E.2.1 0, 8, .inl fy))] s.heap := hP
  have hl := lv_entry ([.ref h0]) (n := 1) (Nat.le_of_ble_eq_true rfl)
  rw [lg_entry_eq]
  generalize (lg_sl ([.ref h0]) ++ List.replicate (1 - (lg_sl ([.ref h0])).length) Slot.unset).toArray = ls at hl ⊢
  have hl : lv_has ls 1 [(0, .ref h0)] := hl
  have fl9 := hts (.fieldLink RX4 9 "BoatsHome$Passage" "way" "[I") (by first | exact List.mem_of_getElem? (i := 3) rfl | decide +kernel)
  have fl15 := hts (.fieldLink RX4 15 "BoatsHome$Passage" "wayLength" "I") (by first | exact List.mem_of_getElem? (i := 2) rfl | decide +kernel)
  have fl19 := hts (.fieldLink RX4 19 "BoatsHome$Passage" "passed" "I") (by first | exact List.mem_of_getElem? (i := 1) rfl | decide +kernel)
  have fl22 := hts (.fieldLink RX4 22 "BoatsHome$Passage" "state" "I") (by first | exact List.mem_of_getElem? (i := 5) rfl | decide +kernel)
  have fl34 := hts (.fieldLink RX4 34 "BoatsHome$Passage" "at" "I") (by first | exact List.mem_of_getElem? (i := 4) rfl | decide +kernel)
  have inX4 : ∀ w ∈ u_ws RX4 TX4 16, w ∈ wsX4_passPlaces := by first | exact fun w h9 => (List.mem_cons_of_mem _ (List.mem_append_right _ h9)) | decide +kernel
  have hPl := hP.sub (ws' := [(h0, .inr (4, [.ref wy, .int wl_, .int (nI ps), .int sta, .int hp, .int fd, .int pe, .int at_, .int go, .int tu, .int wa, .int ce, .int wt, .int un, .int fu, .int dr])), (wy, .inl (E.2.1 0, 8, .inl fy))]) [0, 1] rfl
  have hDl := hD.sub (ws' := [(h0, .inr (4, [.ref wy, .int wl_, .int (nI ps), .int sta, .int hp, .int fd, .int pe, .int at_, .int go, .int tu, .int wa, .int ce, .int wt, .int un, .int fu, .int dr])), (wy, .inl (E.2.1 0, 8, .inl fy))]) [0, 1] (by decide) rfl
  refine lg_pass E h0 wy wl_ sta hp fd pe at_ go tu wa ce wt un fu dr fy hx hb hml hown hts hkn hst hA  (fun n_1 H locs ls hps hP hD hS hl => ?_) 9 ps _ _ _ (by omega) hps hPl hDl hS (lv_sub hl [0] rfl)
  have hP : va_P E.1 vwCl [(h0, .inr (4, [.ref wy, .int wl_, .int (nI n_1), .int sta, .int hp, .int fd, .int pe, .int at_, .int go, .int tu, .int wa, .int ce, .int wt, .int un, .int fu, .int dr])), (wy, .inl (E.2.1 0, 8, .inl fy))] H := hP
  have hD : va_D A [(h0, .inr (4, [.ref wy, .int wl_, .int (nI n_1), .int sta, .int hp, .int fd, .int pe, .int at_, .int go, .int tu, .int wa, .int ce, .int wt, .int un, .int fu, .int dr])), (wy, .inl (E.2.1 0, 8, .inl fy))] := hD
  refine lv_aload_n hx hb dX4_passPlaces_49 rfl (lv_at hl 0 rfl) ?_
  refine va_get (D := E.1) (ci := 4) (v := .int (nI n_1)) (C := RX4) (T := TX4) (N := 16) hx hb hts inX4 hown hK hP 0 rfl rfl 2 (by decide) fl19 (fun _ h9 => h9) rfl dX4_passPlaces_50 ?_
  refine lv_aload_n hx hb dX4_passPlaces_53 rfl (lv_at hl 0 rfl) ?_
  refine va_get (D := E.1) (ci := 4) (v := .int wl_) (C := RX4) (T := TX4) (N := 16) hx hb hts inX4 hown hK hP 0 rfl rfl 1 (by decide) fl15 (fun _ h9 => h9) rfl dX4_passPlaces_54 ?_
  refine lv_icmp_lt (tgt := 65) hx hb dX4_passPlaces_57 (by decide) (fun c_2 => ?_) (fun c_2 => ?_)
  · have hP9 := hP.sub (ws' := [(h0, .inr (4, [.ref wy, .int wl_, .int (nI n_1), .int sta, .int hp, .int fd, .int pe, .int at_, .int go, .int tu, .int wa, .int ce, .int wt, .int un, .int fu, .int dr])), (wy, .inl (E.2.1 0, 8, .inl fy))]) [0, 1] rfl
    have hD9 := hD.sub (ws' := [(h0, .inr (4, [.ref wy, .int wl_, .int (nI n_1), .int sta, .int hp, .int fd, .int pe, .int at_, .int go, .int tu, .int wa, .int ce, .int wt, .int un, .int fu, .int dr])), (wy, .inl (E.2.1 0, 8, .inl fy))]) [0, 1] (by decide) rfl
    exact W.vret hx hb hr (fun t ht hW => ⟨⟨(n_1, sta), rfl, trivial, hps, by rw [ht]; exact hP9, hD9⟩, hS.F ht⟩) hS.2.2 dX4_passPlaces_65
  · refine lv_aload_n hx hb dX4_passPlaces_60 rfl (lv_at hl 0 rfl) ?_
    refine lv_iconst (v := 1) hx hb dX4_passPlaces_61 (by decide) ?_
    refine va_put (D := E.1) (ci := 4) (v := .int 1) (ty := .int) (C := RX4) (T := TX4) (N := 16) hx hb hts inX4 tyX4 tyX4_ok nmX4 hown hK hP hD hS 0 rfl rfl 3 (by decide) fl22 (fun _ h9 => h9) rfl (by decide +kernel) rfl rfl (Nat.le_of_ble_eq_true rfl) dX4_passPlaces_62 (fun H locs hP hD hS => ?_)
    have hP : va_P E.1 vwCl [(h0, .inr (4, [.ref wy, .int wl_, .int (nI n_1), .int 1, .int hp, .int fd, .int pe, .int at_, .int go, .int tu, .int wa, .int ce, .int wt, .int un, .int fu, .int dr])), (wy, .inl (E.2.1 0, 8, .inl fy))] H := hP
    have hD : va_D A [(h0, .inr (4, [.ref wy, .int wl_, .int (nI n_1), .int 1, .int hp, .int fd, .int pe, .int at_, .int go, .int tu, .int wa, .int ce, .int wt, .int un, .int fu, .int dr])), (wy, .inl (E.2.1 0, 8, .inl fy))] := hD
    have hP9 := hP.sub (ws' := [(h0, .inr (4, [.ref wy, .int wl_, .int (nI n_1), .int 1, .int hp, .int fd, .int pe, .int at_, .int go, .int tu, .int wa, .int ce, .int wt, .int un, .int fu, .int dr])), (wy, .inl (E.2.1 0, 8, .inl fy))]) [0, 1] rfl
    have hD9 := hD.sub (ws' := [(h0, .inr (4, [.ref wy, .int wl_, .int (nI n_1), .int 1, .int hp, .int fd, .int pe, .int at_, .int go, .int tu, .int wa, .int ce, .int wt, .int un, .int fu, .int dr])), (wy, .inl (E.2.1 0, 8, .inl fy))]) [0, 1] (by decide) rfl
    exact W.vret hx hb hr (fun t ht hW => ⟨⟨(n_1, 1), rfl, trivial, hps, by rw [ht]; exact hP9, hD9⟩, hS.F ht⟩) hS.2.2 dX4_passPlaces_65
set_option maxHeartbeats 4000000 in
set_option maxRecDepth 100000 in
theorem c_X4_step (l : Launch) (E : vE) (h0 : Nat) (wy : Nat) (ps : Nat) (wl_ : Int32) (sta : Int32) (hp : Int32) (fd : Int32) (pe : Int32) (at_ : Int32) (go : Int32) (tu : Int32) (wa : Int32) (ce : Int32) (wt : Int32) (un : Int32) (fu : Int32) (dr : Int32) (fy : Nat → Int32) (sz : Nat) (hps : ps ≤ 8) : Met l yX4_step wsX4_step ({ frames := 3, cells := 0, slots := 0, locals := 61 }) (pcW E [.ref h0] sz [(h0, .inr (4, [.ref wy, .int wl_, .int (nI ps), .int sta, .int hp, .int fd, .int pe, .int at_, .int go, .int tu, .int wa, .int ce, .int wt, .int un, .int fu, .int dr])), (wy, .inl (E.2.1 0, 8, .inl fy))]) (va_Qv (fun (u : Nat × Int32 × Int32 × Int32 × Int32) => match u with | (ps2, sta2, at_2, go2, ce2) => True) (fun (u : Nat × Int32 × Int32 × Int32 × Int32) (t : State) => match u with | (ps2, sta2, at_2, go2, ce2) => (ps2 ≤ 8) ∧ (go2 = go ∨ go2 = 0) ∧ wB E (va_A [(h0, .inr (4, [.ref wy, .int wl_, .int (nI ps), .int sta, .int hp, .int fd, .int pe, .int at_, .int go, .int tu, .int wa, .int ce, .int wt, .int un, .int fu, .int dr])), (wy, .inl (E.2.1 0, 8, .inl fy))] sz) [(h0, .inr (4, [.ref wy, .int wl_, .int (nI ps2), .int sta2, .int hp, .int fd, .int pe, .int at_2, .int go2, .int tu, .int wa, .int ce2, .int wt, .int un, .int fu, .int dr])), (wy, .inl (E.2.1 0, 8, .inl fy))] t) (va_A [(h0, .inr (4, [.ref wy, .int wl_, .int (nI ps), .int sta, .int hp, .int fd, .int pe, .int at_, .int go, .int tu, .int wa, .int ce, .int wt, .int un, .int fu, .int dr])), (wy, .inl (E.2.1 0, 8, .inl fy))] sz)) 0 0 (va_A [(h0, .inr (4, [.ref wy, .int wl_, .int (nI ps), .int sta, .int hp, .int fd, .int pe, .int at_, .int go, .int tu, .int wa, .int ce, .int wt, .int un, .int fu, .int dr])), (wy, .inl (E.2.1 0, 8, .inl fy))] sz) := by
  refine Met.ofW (cc := cX4_step) (maxL := 1) (ret := none) (by decide) rfl ?_
  intro p e s m args below meth c s₁ B hml hv
  obtain ⟨rfl, hsz, hP, hkn, hD0, hst⟩ := hv
  have hx := B.exec
  have hb := B.bytes
  have hr := B.returns
  have hts := atoms_spec (ws := wsX4_step) B.pre
  have hown : s.vm.findClass RX4 = some m.cls := findClass_of_methodNamed B.named
  have hlocks := B.notSynchronized
  subst hsz
  have hD := hD0.self (sz := s.heap.size)
  have hK := hkn.1
  have hAO := hkn.2.2.1
  generalize hAe : va_A [(h0, .inr (4, [.ref wy, .int wl_, .int (nI ps), .int sta, .int hp, .int fd, .int pe, .int at_, .int go, .int tu, .int wa, .int ce, .int wt, .int un, .int fu, .int dr])), (wy, .inl (E.2.1 0, 8, .inl fy))] s.heap.size = A at hD hst ⊢
  have hA : ∀ q : Nat, s.heap.size ≤ q → A q := fun q h => by rw [← hAe]; exact Or.inr h
  have hS : va_S A s.heap s.heap [] := va_S.rf
  have hP : va_P E.1 vwCl [(h0, .inr (4, [.ref wy, .int wl_, .int (nI ps), .int sta, .int hp, .int fd, .int pe, .int at_, .int go, .int tu, .int wa, .int ce, .int wt, .int un, .int fu, .int dr])), (wy, .inl (E.2.1 0, 8, .inl fy))] s.heap := hP
  have hl := lv_entry ([.ref h0]) (n := 1) (Nat.le_of_ble_eq_true rfl)
  rw [lg_entry_eq]
  generalize (lg_sl ([.ref h0]) ++ List.replicate (1 - (lg_sl ([.ref h0])).length) Slot.unset).toArray = ls at hl ⊢
  have hl : lv_has ls 1 [(0, .ref h0)] := hl
  have fl22 := hts (.fieldLink RX4 22 "BoatsHome$Passage" "state" "I") (by first | exact List.mem_of_getElem? (i := 3) rfl | decide +kernel)
  have fl34 := hts (.fieldLink RX4 34 "BoatsHome$Passage" "at" "I") (by first | exact List.mem_of_getElem? (i := 1) rfl | decide +kernel)
  have fl37 := hts (.fieldLink RX4 37 "BoatsHome$Passage" "gone" "I") (by first | exact List.mem_of_getElem? (i := 4) rfl | decide +kernel)
  have fl47 := hts (.fieldLink RX4 47 "BoatsHome$Passage" "cells" "I") (by first | exact List.mem_of_getElem? (i := 2) rfl | decide +kernel)
  have inX4 : ∀ w ∈ u_ws RX4 TX4 16, w ∈ wsX4_step := by first | exact fun w h9 => (List.mem_cons_of_mem _ (List.mem_append_right _ h9)) | decide +kernel
  refine lv_aload_n hx hb dX4_step_0 rfl (lv_at hl 0 rfl) ?_
  refine lv_dup hx hb dX4_step_1 rfl ?_
  refine va_get (D := E.1) (ci := 4) (v := .int at_) (C := RX4) (T := TX4) (N := 16) hx hb hts inX4 hown hK hP 0 rfl rfl 7 (by decide) fl34 (fun _ h9 => h9) rfl dX4_step_2 ?_
  refine lv_bipush (v := 100) hx hb dX4_step_5 (by decide) ?_
  refine lv_aload_n hx hb dX4_step_7 rfl (lv_at hl 0 rfl) ?_
  have hPc := hP.sub (ws' := [(h0, .inr (4, [.ref wy, .int wl_, .int (nI ps), .int sta, .int hp, .int fd, .int pe, .int at_, .int go, .int tu, .int wa, .int ce, .int wt, .int un, .int fu, .int dr])), (wy, .inl (E.2.1 0, 8, .inl fy))]) [0, 1] rfl
  have hDc := hD.sub (ws' := [(h0, .inr (4, [.ref wy, .int wl_, .int (nI ps), .int sta, .int hp, .int fd, .int pe, .int at_, .int go, .int tu, .int wa, .int ce, .int wt, .int un, .int fu, .int dr])), (wy, .inl (E.2.1 0, 8, .inl fy))]) [0, 1] (by decide) rfl
  have hFc := va_free (wc := [(h0, .inr (4, [.ref wy, .int wl_, .int (nI ps), .int sta, .int hp, .int fd, .int pe, .int at_, .int go, .int tu, .int wa, .int ce, .int wt, .int un, .int fu, .int dr])), (wy, .inl (E.2.1 0, 8, .inl fy))]) hD hS hA [0, 1] rfl
  refine va_calli (va_runV (As := []) (rest := [.int 100, .int at_, .ref h0]) ⟨hx, hb, hml, hown, hts⟩ (c_X4_columnSign l E h0 wy ps wl_ sta hp fd pe at_ go tu wa ce wt un fu dr fy s.heap.size ) (cwV 0 hts gX4_step_X4_columnSign rfl rfl rfl hdV_X4_columnSign ⟨Nat.le_of_ble_eq_true rfl, Nat.le_of_ble_eq_true rfl⟩) ⟨pcW_blind, va_recv hK hPc (ci := 4) (q0 := 0) rfl rfl, (pcW_pre hPc hkn hDc hst hS hFc)⟩ rfl rfl hl.1 rfl (lv_room (Nat.le_of_ble_eq_true rfl)) dX4_step_8 ⟨Nat.le_of_ble_eq_true rfl, Nat.le_of_ble_eq_true rfl⟩) hS (fun q _ h => hFc q h) hFc (fun r_1 u t H1 locs ht hvm hw_2 hB hz1 hk1 hS => ?_)
  obtain ⟨hP1, hD1⟩ := hB
  rw [ht] at hP1
  try dsimp only at hw_2
  obtain ⟨hP, hD⟩ := va_join (wr := []) (w1 := [(h0, .inr (4, [.ref wy, .int wl_, .int (nI ps), .int sta, .int hp, .int fd, .int pe, .int at_, .int go, .int tu, .int wa, .int ce, .int wt, .int un, .int fu, .int dr])), (wy, .inl (E.2.1 0, 8, .inl fy))]) hP hD [0, 1] [] rfl rfl (by decide) (by decide) hk1 hFc hP1 hD1
  generalize H1 = H at hP hS ⊢
  have hP : va_P E.1 vwCl [(h0, .inr (4, [.ref wy, .int wl_, .int (nI ps), .int sta, .int hp, .int fd, .int pe, .int at_, .int go, .int tu, .int wa, .int ce, .int wt, .int un, .int fu, .int dr])), (wy, .inl (E.2.1 0, 8, .inl fy))] H := hP
  have hD : va_D A [(h0, .inr (4, [.ref wy, .int wl_, .int (nI ps), .int sta, .int hp, .int fd, .int pe, .int at_, .int go, .int tu, .int wa, .int ce, .int wt, .int un, .int fu, .int dr])), (wy, .inl (E.2.1 0, 8, .inl fy))] := hD
  refine lv_imul hx hb dX4_step_11 ?_
  refine lv_topi (fun x_3 ex_3 => ?_)
  refine lv_aload_n hx hb dX4_step_12 rfl (lv_at hl 0 rfl) ?_
  have hPc := hP.sub (ws' := [(h0, .inr (4, [.ref wy, .int wl_, .int (nI ps), .int sta, .int hp, .int fd, .int pe, .int at_, .int go, .int tu, .int wa, .int ce, .int wt, .int un, .int fu, .int dr])), (wy, .inl (E.2.1 0, 8, .inl fy))]) [0, 1] rfl
  have hDc := hD.sub (ws' := [(h0, .inr (4, [.ref wy, .int wl_, .int (nI ps), .int sta, .int hp, .int fd, .int pe, .int at_, .int go, .int tu, .int wa, .int ce, .int wt, .int un, .int fu, .int dr])), (wy, .inl (E.2.1 0, 8, .inl fy))]) [0, 1] (by decide) rfl
  have hFc := va_free (wc := [(h0, .inr (4, [.ref wy, .int wl_, .int (nI ps), .int sta, .int hp, .int fd, .int pe, .int at_, .int go, .int tu, .int wa, .int ce, .int wt, .int un, .int fu, .int dr])), (wy, .inl (E.2.1 0, 8, .inl fy))]) hD hS hA [0, 1] rfl
  refine va_calli (va_runV (As := []) (rest := [.int x_3, .int at_, .ref h0]) ⟨hx, hb, hml, hown, hts⟩ (c_X4_rowSign l E h0 wy ps wl_ sta hp fd pe at_ go tu wa ce wt un fu dr fy H.size ) (cwV 0 hts gX4_step_X4_rowSign rfl rfl rfl hdV_X4_rowSign ⟨Nat.le_of_ble_eq_true rfl, Nat.le_of_ble_eq_true rfl⟩) ⟨pcW_blind, va_recv hK hPc (ci := 4) (q0 := 0) rfl rfl, (pcW_pre hPc hkn hDc hst hS hFc)⟩ rfl rfl hl.1 rfl (lv_room (Nat.le_of_ble_eq_true rfl)) dX4_step_13 ⟨Nat.le_of_ble_eq_true rfl, Nat.le_of_ble_eq_true rfl⟩) hS (fun q _ h => hFc q h) hFc (fun r_4 u t H1 locs ht hvm hw_5 hB hz1 hk1 hS => ?_)
  obtain ⟨hP1, hD1⟩ := hB
  rw [ht] at hP1
  try dsimp only at hw_5
  obtain ⟨hP, hD⟩ := va_join (wr := []) (w1 := [(h0, .inr (4, [.ref wy, .int wl_, .int (nI ps), .int sta, .int hp, .int fd, .int pe, .int at_, .int go, .int tu, .int wa, .int ce, .int wt, .int un, .int fu, .int dr])), (wy, .inl (E.2.1 0, 8, .inl fy))]) hP hD [0, 1] [] rfl rfl (by decide) (by decide) hk1 hFc hP1 hD1
  generalize H1 = H at hP hS ⊢
  have hP : va_P E.1 vwCl [(h0, .inr (4, [.ref wy, .int wl_, .int (nI ps), .int sta, .int hp, .int fd, .int pe, .int at_, .int go, .int tu, .int wa, .int ce, .int wt, .int un, .int fu, .int dr])), (wy, .inl (E.2.1 0, 8, .inl fy))] H := hP
  have hD : va_D A [(h0, .inr (4, [.ref wy, .int wl_, .int (nI ps), .int sta, .int hp, .int fd, .int pe, .int at_, .int go, .int tu, .int wa, .int ce, .int wt, .int un, .int fu, .int dr])), (wy, .inl (E.2.1 0, 8, .inl fy))] := hD
  refine lv_iadd hx hb dX4_step_16 ?_
  refine lv_topi (fun x_6 ex_6 => ?_)
  refine lv_iadd hx hb dX4_step_17 ?_
  refine lv_topi (fun x_7 ex_7 => ?_)
  refine va_put (D := E.1) (ci := 4) (v := .int x_7) (ty := .int) (C := RX4) (T := TX4) (N := 16) hx hb hts inX4 tyX4 tyX4_ok nmX4 hown hK hP hD hS 0 rfl rfl 7 (by decide) fl34 (fun _ h9 => h9) rfl (by decide +kernel) rfl rfl (Nat.le_of_ble_eq_true rfl) dX4_step_18 (fun H locs hP hD hS => ?_)
  have hP : va_P E.1 vwCl [(h0, .inr (4, [.ref wy, .int wl_, .int (nI ps), .int sta, .int hp, .int fd, .int pe, .int x_7, .int go, .int tu, .int wa, .int ce, .int wt, .int un, .int fu, .int dr])), (wy, .inl (E.2.1 0, 8, .inl fy))] H := hP
  have hD : va_D A [(h0, .inr (4, [.ref wy, .int wl_, .int (nI ps), .int sta, .int hp, .int fd, .int pe, .int x_7, .int go, .int tu, .int wa, .int ce, .int wt, .int un, .int fu, .int dr])), (wy, .inl (E.2.1 0, 8, .inl fy))] := hD
  refine lv_aload_n hx hb dX4_step_21 rfl (lv_at hl 0 rfl) ?_
  refine lv_dup hx hb dX4_step_22 rfl ?_
  refine va_get (D := E.1) (ci := 4) (v := .int ce) (C := RX4) (T := TX4) (N := 16) hx hb hts inX4 hown hK hP 0 rfl rfl 11 (by decide) fl47 (fun _ h9 => h9) rfl dX4_step_23 ?_
  refine lv_iconst (v := 1) hx hb dX4_step_26 (by decide) ?_
  refine lv_iadd hx hb dX4_step_27 ?_
  refine lv_topi (fun x_8 ex_8 => ?_)
  refine va_put (D := E.1) (ci := 4) (v := .int x_8) (ty := .int) (C := RX4) (T := TX4) (N := 16) hx hb hts inX4 tyX4 tyX4_ok nmX4 hown hK hP hD hS 0 rfl rfl 11 (by decide) fl47 (fun _ h9 => h9) rfl (by decide +kernel) rfl rfl (Nat.le_of_ble_eq_true rfl) dX4_step_28 (fun H locs hP hD hS => ?_)
  have hP : va_P E.1 vwCl [(h0, .inr (4, [.ref wy, .int wl_, .int (nI ps), .int sta, .int hp, .int fd, .int pe, .int x_7, .int go, .int tu, .int wa, .int x_8, .int wt, .int un, .int fu, .int dr])), (wy, .inl (E.2.1 0, 8, .inl fy))] H := hP
  have hD : va_D A [(h0, .inr (4, [.ref wy, .int wl_, .int (nI ps), .int sta, .int hp, .int fd, .int pe, .int x_7, .int go, .int tu, .int wa, .int x_8, .int wt, .int un, .int fu, .int dr])), (wy, .inl (E.2.1 0, 8, .inl fy))] := hD
  refine lv_aload_n hx hb dX4_step_31 rfl (lv_at hl 0 rfl) ?_
  have hPc := hP.sub (ws' := [(h0, .inr (4, [.ref wy, .int wl_, .int (nI ps), .int sta, .int hp, .int fd, .int pe, .int x_7, .int go, .int tu, .int wa, .int x_8, .int wt, .int un, .int fu, .int dr])), (wy, .inl (E.2.1 0, 8, .inl fy))]) [0, 1] rfl
  have hDc := hD.sub (ws' := [(h0, .inr (4, [.ref wy, .int wl_, .int (nI ps), .int sta, .int hp, .int fd, .int pe, .int x_7, .int go, .int tu, .int wa, .int x_8, .int wt, .int un, .int fu, .int dr])), (wy, .inl (E.2.1 0, 8, .inl fy))]) [0, 1] (by decide) rfl
  have hFc := va_free (wc := [(h0, .inr (4, [.ref wy, .int wl_, .int (nI ps), .int sta, .int hp, .int fd, .int pe, .int x_7, .int go, .int tu, .int wa, .int x_8, .int wt, .int un, .int fu, .int dr])), (wy, .inl (E.2.1 0, 8, .inl fy))]) hD hS hA [0, 1] rfl
  refine va_callv (va_runV (As := []) (rest := []) ⟨hx, hb, hml, hown, hts⟩ (c_X4_passPlaces l E h0 wy ps wl_ sta hp fd pe x_7 go tu wa x_8 wt un fu dr fy H.size hps) (cwV 0 hts gX4_step_X4_passPlaces rfl rfl rfl hdV_X4_passPlaces ⟨Nat.le_of_ble_eq_true rfl, Nat.le_of_ble_eq_true rfl⟩) ⟨pcW_blind, va_recv hK hPc (ci := 4) (q0 := 0) rfl rfl, (pcW_pre hPc hkn hDc hst hS hFc)⟩ rfl rfl hl.1 rfl (lv_room (Nat.le_of_ble_eq_true rfl)) dX4_step_32 ⟨Nat.le_of_ble_eq_true rfl, Nat.le_of_ble_eq_true rfl⟩) hS (fun q _ h => hFc q h) hFc (fun u t H1 locs ht hvm hw_10 hB hz1 hk1 hS => ?_)
  obtain ⟨u_11, u_12⟩ := u
  obtain ⟨hf_13, hP1, hD1⟩ := hB
  rw [ht] at hP1
  try dsimp only at hw_10
  obtain ⟨hP, hD⟩ := va_join (wr := []) (w1 := [(h0, .inr (4, [.ref wy, .int wl_, .int (nI u_11), .int u_12, .int hp, .int fd, .int pe, .int x_7, .int go, .int tu, .int wa, .int x_8, .int wt, .int un, .int fu, .int dr])), (wy, .inl (E.2.1 0, 8, .inl fy))]) hP hD [0, 1] [] rfl rfl (by decide) (by decide) hk1 hFc hP1 hD1
  generalize H1 = H at hP hS ⊢
  have hP : va_P E.1 vwCl [(h0, .inr (4, [.ref wy, .int wl_, .int (nI u_11), .int u_12, .int hp, .int fd, .int pe, .int x_7, .int go, .int tu, .int wa, .int x_8, .int wt, .int un, .int fu, .int dr])), (wy, .inl (E.2.1 0, 8, .inl fy))] H := hP
  have hD : va_D A [(h0, .inr (4, [.ref wy, .int wl_, .int (nI u_11), .int u_12, .int hp, .int fd, .int pe, .int x_7, .int go, .int tu, .int wa, .int x_8, .int wt, .int un, .int fu, .int dr])), (wy, .inl (E.2.1 0, 8, .inl fy))] := hD
  refine lv_aload_n hx hb dX4_step_35 rfl (lv_at hl 0 rfl) ?_
  refine va_get (D := E.1) (ci := 4) (v := .int u_12) (C := RX4) (T := TX4) (N := 16) hx hb hts inX4 hown hK hP 0 rfl rfl 3 (by decide) fl22 (fun _ h9 => h9) rfl dX4_step_36 ?_
  refine lv_iconst (v := 1) hx hb dX4_step_39 (by decide) ?_
  refine lv_icmp_ne (tgt := 48) hx hb dX4_step_40 (by decide) (fun c_14 => ?_) (fun c_14 => ?_)
  · have hP9 := hP.sub (ws' := [(h0, .inr (4, [.ref wy, .int wl_, .int (nI u_11), .int u_12, .int hp, .int fd, .int pe, .int x_7, .int go, .int tu, .int wa, .int x_8, .int wt, .int un, .int fu, .int dr])), (wy, .inl (E.2.1 0, 8, .inl fy))]) [0, 1] rfl
    have hD9 := hD.sub (ws' := [(h0, .inr (4, [.ref wy, .int wl_, .int (nI u_11), .int u_12, .int hp, .int fd, .int pe, .int x_7, .int go, .int tu, .int wa, .int x_8, .int wt, .int un, .int fu, .int dr])), (wy, .inl (E.2.1 0, 8, .inl fy))]) [0, 1] (by decide) rfl
    exact W.vret hx hb hr (fun t ht hW => ⟨⟨(u_11, u_12, x_7, go, x_8), rfl, trivial, hf_13, Or.inl rfl, by rw [ht]; exact hP9, hD9⟩, hS.F ht⟩) hS.2.2 dX4_step_48
  · refine lv_aload_n hx hb dX4_step_43 rfl (lv_at hl 0 rfl) ?_
    refine lv_iconst (v := 0) hx hb dX4_step_44 (by decide) ?_
    refine va_put (D := E.1) (ci := 4) (v := .int 0) (ty := .int) (C := RX4) (T := TX4) (N := 16) hx hb hts inX4 tyX4 tyX4_ok nmX4 hown hK hP hD hS 0 rfl rfl 8 (by decide) fl37 (fun _ h9 => h9) rfl (by decide +kernel) rfl rfl (Nat.le_of_ble_eq_true rfl) dX4_step_45 (fun H locs hP hD hS => ?_)
    have hP : va_P E.1 vwCl [(h0, .inr (4, [.ref wy, .int wl_, .int (nI u_11), .int u_12, .int hp, .int fd, .int pe, .int x_7, .int 0, .int tu, .int wa, .int x_8, .int wt, .int un, .int fu, .int dr])), (wy, .inl (E.2.1 0, 8, .inl fy))] H := hP
    have hD : va_D A [(h0, .inr (4, [.ref wy, .int wl_, .int (nI u_11), .int u_12, .int hp, .int fd, .int pe, .int x_7, .int 0, .int tu, .int wa, .int x_8, .int wt, .int un, .int fu, .int dr])), (wy, .inl (E.2.1 0, 8, .inl fy))] := hD
    have hP9 := hP.sub (ws' := [(h0, .inr (4, [.ref wy, .int wl_, .int (nI u_11), .int u_12, .int hp, .int fd, .int pe, .int x_7, .int 0, .int tu, .int wa, .int x_8, .int wt, .int un, .int fu, .int dr])), (wy, .inl (E.2.1 0, 8, .inl fy))]) [0, 1] rfl
    have hD9 := hD.sub (ws' := [(h0, .inr (4, [.ref wy, .int wl_, .int (nI u_11), .int u_12, .int hp, .int fd, .int pe, .int x_7, .int 0, .int tu, .int wa, .int x_8, .int wt, .int un, .int fu, .int dr])), (wy, .inl (E.2.1 0, 8, .inl fy))]) [0, 1] (by decide) rfl
    exact W.vret hx hb hr (fun t ht hW => ⟨⟨(u_11, u_12, x_7, 0, x_8), rfl, trivial, hf_13, Or.inr rfl, by rw [ht]; exact hP9, hD9⟩, hS.F ht⟩) hS.2.2 dX4_step_48
set_option maxHeartbeats 4000000 in
set_option maxRecDepth 100000 in
theorem lg_move {p : Program} {l : Launch} {e : Env} {s : State} {m : MethodId} {args : Array Value} {below : List Frame} {meth : Method} {c : Code} {Q : State → Prop} {A : Nat → Prop} (E : vE) (h0 : Nat) (wy : Nat) (wl_ : Int32) (hp : Int32) (fd : Int32) (pe : Int32) (tu : Int32) (wa : Int32) (wt : Int32) (un : Int32) (fu : Int32) (dr : Int32) (fy : Nat → Int32) (bo_ : Nat) (sp : Nat) (pa : Nat) (ru : Nat) (co : Nat) (tr : Nat) (lt : Int32) (fs_ : Nat → Int32) (hx : p.tables.exec = Jvm.exec) (hb : c.code = cX4_move) (hml : c.maxLocals = 5) (hown : s.vm.findClass RX4 = some m.cls) (hts : ∀ w ∈ wsX4_move, w.before args s = true) (hkn : kn E s) (hst : st E A s s.heap) (hA : ∀ q : Nat, s.heap.size ≤ q → A q) (kk : ∀ (ps : Nat) (sta : Int32) (at_ : Int32) (go : Int32) (ce : Int32) (H : Heap) (locs : List Loc) (ls : Array Slot), (ps ≤ 8) → va_P E.1 vwCl [(h0, .inr (4, [.ref wy, .int wl_, .int (nI ps), .int sta, .int hp, .int fd, .int pe, .int at_, .int go, .int tu, .int wa, .int ce, .int wt, .int un, .int fu, .int dr])), (wy, .inl (E.2.1 0, 8, .inl fy)), (bo_, .inr (0, [.ref sp, .ref pa, .int lt, .ref ru, .ref co, .ref tr])), (sp, .inl (E.2.1 0, 25, .inl fs_))] H → va_D A [(h0, .inr (4, [.ref wy, .int wl_, .int (nI ps), .int sta, .int hp, .int fd, .int pe, .int at_, .int go, .int tu, .int wa, .int ce, .int wt, .int un, .int fu, .int dr])), (wy, .inl (E.2.1 0, 8, .inl fy)), (bo_, .inr (0, [.ref sp, .ref pa, .int lt, .ref ru, .ref co, .ref tr])), (sp, .inl (E.2.1 0, 25, .inl fs_))] → va_S A s.heap H locs → lv_has ls 5 [(0, .ref h0)] → W p l e ({ frames := 4, cells := 0, slots := 0, locals := 82 }) s m args below meth c H locs 0 0 Q (F0 m 81 ls [])) : ∀ (n0 : Nat) (ps : Nat) (sta : Int32) (at_ : Int32) (go : Int32) (ce : Int32) (H : Heap) (locs : List Loc) (ls : Array Slot), go.toInt.toNat < n0 → (ps ≤ 8) → va_P E.1 vwCl [(h0, .inr (4, [.ref wy, .int wl_, .int (nI ps), .int sta, .int hp, .int fd, .int pe, .int at_, .int go, .int tu, .int wa, .int ce, .int wt, .int un, .int fu, .int dr])), (wy, .inl (E.2.1 0, 8, .inl fy)), (bo_, .inr (0, [.ref sp, .ref pa, .int lt, .ref ru, .ref co, .ref tr])), (sp, .inl (E.2.1 0, 25, .inl fs_))] H → va_D A [(h0, .inr (4, [.ref wy, .int wl_, .int (nI ps), .int sta, .int hp, .int fd, .int pe, .int at_, .int go, .int tu, .int wa, .int ce, .int wt, .int un, .int fu, .int dr])), (wy, .inl (E.2.1 0, 8, .inl fy)), (bo_, .inr (0, [.ref sp, .ref pa, .int lt, .ref ru, .ref co, .ref tr])), (sp, .inl (E.2.1 0, 25, .inl fs_))] → va_S A s.heap H locs → lv_has ls 5 [(0, .ref h0)] → W p l e ({ frames := 4, cells := 0, slots := 0, locals := 82 }) s m args below meth c H locs 0 0 Q (F0 m 47 ls []) := by
  have hK := hkn.1
  have hAO := hkn.2.2.1
  have fl22 := hts (.fieldLink RX4 22 "BoatsHome$Passage" "state" "I") (by first | exact List.mem_of_getElem? (i := 1) rfl | decide +kernel)
  have fl37 := hts (.fieldLink RX4 37 "BoatsHome$Passage" "gone" "I") (by first | exact List.mem_of_getElem? (i := 6) rfl | decide +kernel)
  have inX4 : ∀ w ∈ u_ws RX4 TX4 16, w ∈ wsX4_move := by first | exact fun w h9 => (List.mem_cons_of_mem _ (List.mem_append_left _ (List.mem_append_right _ h9))) | decide +kernel
  intro n0
  induction n0 with
  | zero =>
    intro ps sta at_ go ce H locs ls hn0
    exact absurd hn0 (Nat.not_lt_zero _)
  | succ n0 ih =>
    intro ps sta at_ go ce H locs ls hn0 hps hP hD hS hl
    refine lv_aload_n hx hb dX4_move_47 rfl (lv_at hl 0 rfl) ?_
    refine va_get (D := E.1) (ci := 4) (v := .int go) (C := RX4) (T := TX4) (N := 16) hx hb hts inX4 hown hK hP 0 rfl rfl 8 (by decide) fl37 (fun _ h9 => h9) rfl dX4_move_48 ?_
    refine lv_bipush (v := 10) hx hb dX4_move_51 (by decide) ?_
    refine lv_icmp_lt (tgt := 81) hx hb dX4_move_53 (by decide) (fun c_1 => ?_) (fun c_1 => ?_)
    · exact kk ps sta at_ go ce _ _ _ hps (hP.sub [0, 1, 2, 3] rfl) (hD.sub [0, 1, 2, 3] (by decide) rfl) hS (lv_sub hl [0] rfl)
    · refine lv_aload_n hx hb dX4_move_56 rfl (lv_at hl 0 rfl) ?_
      refine va_get (D := E.1) (ci := 4) (v := .int sta) (C := RX4) (T := TX4) (N := 16) hx hb hts inX4 hown hK hP 0 rfl rfl 3 (by decide) fl22 (fun _ h9 => h9) rfl dX4_move_57 ?_
      refine lv_if_ne (tgt := 81) hx hb dX4_move_60 (by decide) (fun c_2 => ?_) (fun c_2 => ?_)
      · exact kk ps sta at_ go ce _ _ _ hps (hP.sub [0, 1, 2, 3] rfl) (hD.sub [0, 1, 2, 3] (by decide) rfl) hS (lv_sub hl [0] rfl)
      · refine lv_aload_n hx hb dX4_move_63 rfl (lv_at hl 0 rfl) ?_
        refine lv_dup hx hb dX4_move_64 rfl ?_
        refine va_get (D := E.1) (ci := 4) (v := .int go) (C := RX4) (T := TX4) (N := 16) hx hb hts inX4 hown hK hP 0 rfl rfl 8 (by decide) fl37 (fun _ h9 => h9) rfl dX4_move_65 ?_
        refine lv_bipush (v := 10) hx hb dX4_move_68 (by decide) ?_
        refine lv_isub hx hb dX4_move_70 ?_
        refine lv_topi (fun x_3 ex_3 => ?_)
        refine va_put (D := E.1) (ci := 4) (v := .int x_3) (ty := .int) (C := RX4) (T := TX4) (N := 16) hx hb hts inX4 tyX4 tyX4_ok nmX4 hown hK hP hD hS 0 rfl rfl 8 (by decide) fl37 (fun _ h9 => h9) rfl (by decide +kernel) rfl rfl (Nat.le_of_ble_eq_true rfl) dX4_move_71 (fun H locs hP hD hS => ?_)
        have hP : va_P E.1 vwCl [(h0, .inr (4, [.ref wy, .int wl_, .int (nI ps), .int sta, .int hp, .int fd, .int pe, .int at_, .int x_3, .int tu, .int wa, .int ce, .int wt, .int un, .int fu, .int dr])), (wy, .inl (E.2.1 0, 8, .inl fy)), (bo_, .inr (0, [.ref sp, .ref pa, .int lt, .ref ru, .ref co, .ref tr])), (sp, .inl (E.2.1 0, 25, .inl fs_))] H := hP
        have hD : va_D A [(h0, .inr (4, [.ref wy, .int wl_, .int (nI ps), .int sta, .int hp, .int fd, .int pe, .int at_, .int x_3, .int tu, .int wa, .int ce, .int wt, .int un, .int fu, .int dr])), (wy, .inl (E.2.1 0, 8, .inl fy)), (bo_, .inr (0, [.ref sp, .ref pa, .int lt, .ref ru, .ref co, .ref tr])), (sp, .inl (E.2.1 0, 25, .inl fs_))] := hD
        refine lv_aload_n hx hb dX4_move_74 rfl (lv_at hl 0 rfl) ?_
        have hPc := hP.sub (ws' := [(h0, .inr (4, [.ref wy, .int wl_, .int (nI ps), .int sta, .int hp, .int fd, .int pe, .int at_, .int x_3, .int tu, .int wa, .int ce, .int wt, .int un, .int fu, .int dr])), (wy, .inl (E.2.1 0, 8, .inl fy))]) [0, 1] rfl
        have hDc := hD.sub (ws' := [(h0, .inr (4, [.ref wy, .int wl_, .int (nI ps), .int sta, .int hp, .int fd, .int pe, .int at_, .int x_3, .int tu, .int wa, .int ce, .int wt, .int un, .int fu, .int dr])), (wy, .inl (E.2.1 0, 8, .inl fy))]) [0, 1] (by decide) rfl
        have hFc := va_free (wc := [(h0, .inr (4, [.ref wy, .int wl_, .int (nI ps), .int sta, .int hp, .int fd, .int pe, .int at_, .int x_3, .int tu, .int wa, .int ce, .int wt, .int un, .int fu, .int dr])), (wy, .inl (E.2.1 0, 8, .inl fy))]) hD hS hA [0, 1] rfl
        refine va_callv (va_runV (As := []) (rest := []) ⟨hx, hb, hml, hown, hts⟩ (c_X4_step l E h0 wy ps wl_ sta hp fd pe at_ x_3 tu wa ce wt un fu dr fy H.size hps) (cwV 0 hts gX4_move_X4_step rfl rfl rfl hdV_X4_step ⟨Nat.le_of_ble_eq_true rfl, Nat.le_of_ble_eq_true rfl⟩) ⟨pcW_blind, va_recv hK hPc (ci := 4) (q0 := 0) rfl rfl, (pcW_pre hPc hkn hDc hst hS hFc)⟩ rfl rfl hl.1 rfl (lv_room (Nat.le_of_ble_eq_true rfl)) dX4_move_75 ⟨Nat.le_of_ble_eq_true rfl, Nat.le_of_ble_eq_true rfl⟩) hS (fun q _ h => hFc q h) hFc (fun u t H1 locs ht hvm hw_5 hB hz1 hk1 hS => ?_)
        obtain ⟨u_6, u_7, u_8, u_9, u_10⟩ := u
        obtain ⟨hf_11, hf_12, hP1, hD1⟩ := hB
        rw [ht] at hP1
        try dsimp only at hw_5
        obtain ⟨hP, hD⟩ := va_join (wr := [(bo_, .inr (0, [.ref sp, .ref pa, .int lt, .ref ru, .ref co, .ref tr])), (sp, .inl (E.2.1 0, 25, .inl fs_))]) (w1 := [(h0, .inr (4, [.ref wy, .int wl_, .int (nI u_6), .int u_7, .int hp, .int fd, .int pe, .int u_8, .int u_9, .int tu, .int wa, .int u_10, .int wt, .int un, .int fu, .int dr])), (wy, .inl (E.2.1 0, 8, .inl fy))]) hP hD [0, 1] [2, 3] rfl rfl (by decide) (by decide) hk1 hFc hP1 hD1
        generalize H1 = H at hP hS ⊢
        have hP : va_P E.1 vwCl [(bo_, .inr (0, [.ref sp, .ref pa, .int lt, .ref ru, .ref co, .ref tr])), (sp, .inl (E.2.1 0, 25, .inl fs_)), (h0, .inr (4, [.ref wy, .int wl_, .int (nI u_6), .int u_7, .int hp, .int fd, .int pe, .int u_8, .int u_9, .int tu, .int wa, .int u_10, .int wt, .int un, .int fu, .int dr])), (wy, .inl (E.2.1 0, 8, .inl fy))] H := hP
        have hD : va_D A [(bo_, .inr (0, [.ref sp, .ref pa, .int lt, .ref ru, .ref co, .ref tr])), (sp, .inl (E.2.1 0, 25, .inl fs_)), (h0, .inr (4, [.ref wy, .int wl_, .int (nI u_6), .int u_7, .int hp, .int fd, .int pe, .int u_8, .int u_9, .int tu, .int wa, .int u_10, .int wt, .int un, .int fu, .int dr])), (wy, .inl (E.2.1 0, 8, .inl fy))] := hD
        refine lv_goto (tgt := 47) hx hb dX4_move_78 (by decide) ?_
        exact ih u_6 u_7 u_8 u_9 u_10 _ _ _ (by
                have h9 := hf_12
                rw [ex_3] at h9
                exact go_dec (hn := hn0) c_1 h9) hf_11 (hP.sub [2, 3, 0, 1] rfl) (hD.sub [2, 3, 0, 1] (by decide) rfl) hS (lv_sub hl [0] rfl)
set_option maxHeartbeats 4000000 in
set_option maxRecDepth 100000 in
theorem c_X4_move (l : Launch) (E : vE) (h0 : Nat) (wy : Nat) (ps : Nat) (wl_ : Int32) (sta : Int32) (hp : Int32) (fd : Int32) (pe : Int32) (at_ : Int32) (go : Int32) (tu : Int32) (wa : Int32) (ce : Int32) (wt : Int32) (un : Int32) (fu : Int32) (dr : Int32) (fy : Nat → Int32) (bo_ : Nat) (sp : Nat) (pa : Nat) (ru : Nat) (co : Nat) (tr : Nat) (lt : Int32) (fs_ : Nat → Int32) (di : Int32) (fo : Int32) (sz : Nat) (hps : ps ≤ 8) : Met l yX4_move wsX4_move ({ frames := 4, cells := 0, slots := 0, locals := 82 }) (pcW E [.ref h0, .ref bo_, .int di, .int fo] sz [(h0, .inr (4, [.ref wy, .int wl_, .int (nI ps), .int sta, .int hp, .int fd, .int pe, .int at_, .int go, .int tu, .int wa, .int ce, .int wt, .int un, .int fu, .int dr])), (wy, .inl (E.2.1 0, 8, .inl fy)), (bo_, .inr (0, [.ref sp, .ref pa, .int lt, .ref ru, .ref co, .ref tr])), (sp, .inl (E.2.1 0, 25, .inl fs_))]) (va_Qv (fun (u : Nat × Int32 × Int32 × Int32 × Int32) => match u with | (ps2, sta2, at_2, go2, ce2) => True) (fun (u : Nat × Int32 × Int32 × Int32 × Int32) (t : State) => match u with | (ps2, sta2, at_2, go2, ce2) => (ps2 ≤ 8) ∧ wB E (va_A [(h0, .inr (4, [.ref wy, .int wl_, .int (nI ps), .int sta, .int hp, .int fd, .int pe, .int at_, .int go, .int tu, .int wa, .int ce, .int wt, .int un, .int fu, .int dr])), (wy, .inl (E.2.1 0, 8, .inl fy)), (bo_, .inr (0, [.ref sp, .ref pa, .int lt, .ref ru, .ref co, .ref tr])), (sp, .inl (E.2.1 0, 25, .inl fs_))] sz) [(h0, .inr (4, [.ref wy, .int wl_, .int (nI ps2), .int sta2, .int hp, .int fd, .int pe, .int at_2, .int go2, .int tu, .int wa, .int ce2, .int wt, .int un, .int fu, .int dr])), (wy, .inl (E.2.1 0, 8, .inl fy)), (bo_, .inr (0, [.ref sp, .ref pa, .int lt, .ref ru, .ref co, .ref tr])), (sp, .inl (E.2.1 0, 25, .inl fs_))] t) (va_A [(h0, .inr (4, [.ref wy, .int wl_, .int (nI ps), .int sta, .int hp, .int fd, .int pe, .int at_, .int go, .int tu, .int wa, .int ce, .int wt, .int un, .int fu, .int dr])), (wy, .inl (E.2.1 0, 8, .inl fy)), (bo_, .inr (0, [.ref sp, .ref pa, .int lt, .ref ru, .ref co, .ref tr])), (sp, .inl (E.2.1 0, 25, .inl fs_))] sz)) 0 0 (va_A [(h0, .inr (4, [.ref wy, .int wl_, .int (nI ps), .int sta, .int hp, .int fd, .int pe, .int at_, .int go, .int tu, .int wa, .int ce, .int wt, .int un, .int fu, .int dr])), (wy, .inl (E.2.1 0, 8, .inl fy)), (bo_, .inr (0, [.ref sp, .ref pa, .int lt, .ref ru, .ref co, .ref tr])), (sp, .inl (E.2.1 0, 25, .inl fs_))] sz) := by
  refine Met.ofW (cc := cX4_move) (maxL := 5) (ret := none) (by decide) rfl ?_
  intro p e s m args below meth c s₁ B hml hv
  obtain ⟨rfl, hsz, hP, hkn, hD0, hst⟩ := hv
  have hx := B.exec
  have hb := B.bytes
  have hr := B.returns
  have hts := atoms_spec (ws := wsX4_move) B.pre
  have hown : s.vm.findClass RX4 = some m.cls := findClass_of_methodNamed B.named
  have hlocks := B.notSynchronized
  subst hsz
  have hD := hD0.self (sz := s.heap.size)
  have hK := hkn.1
  have hAO := hkn.2.2.1
  generalize hAe : va_A [(h0, .inr (4, [.ref wy, .int wl_, .int (nI ps), .int sta, .int hp, .int fd, .int pe, .int at_, .int go, .int tu, .int wa, .int ce, .int wt, .int un, .int fu, .int dr])), (wy, .inl (E.2.1 0, 8, .inl fy)), (bo_, .inr (0, [.ref sp, .ref pa, .int lt, .ref ru, .ref co, .ref tr])), (sp, .inl (E.2.1 0, 25, .inl fs_))] s.heap.size = A at hD hst ⊢
  have hA : ∀ q : Nat, s.heap.size ≤ q → A q := fun q h => by rw [← hAe]; exact Or.inr h
  have hS : va_S A s.heap s.heap [] := va_S.rf
  have hP : va_P E.1 vwCl [(h0, .inr (4, [.ref wy, .int wl_, .int (nI ps), .int sta, .int hp, .int fd, .int pe, .int at_, .int go, .int tu, .int wa, .int ce, .int wt, .int un, .int fu, .int dr])), (wy, .inl (E.2.1 0, 8, .inl fy)), (bo_, .inr (0, [.ref sp, .ref pa, .int lt, .ref ru, .ref co, .ref tr])), (sp, .inl (E.2.1 0, 25, .inl fs_))] s.heap := hP
  have hl := lv_entry ([.ref h0, .ref bo_, .int di, .int fo]) (n := 5) (Nat.le_of_ble_eq_true rfl)
  rw [lg_entry_eq]
  generalize (lg_sl ([.ref h0, .ref bo_, .int di, .int fo]) ++ List.replicate (5 - (lg_sl ([.ref h0, .ref bo_, .int di, .int fo])).length) Slot.unset).toArray = ls at hl ⊢
  have hl : lv_has ls 5 [(0, .ref h0), (1, .ref bo_), (2, .int di), (3, .int fo)] := hl
  have fl22 := hts (.fieldLink RX4 22 "BoatsHome$Passage" "state" "I") (by first | exact List.mem_of_getElem? (i := 1) rfl | decide +kernel)
  have fl37 := hts (.fieldLink RX4 37 "BoatsHome$Passage" "gone" "I") (by first | exact List.mem_of_getElem? (i := 6) rfl | decide +kernel)
  have inX4 : ∀ w ∈ u_ws RX4 TX4 16, w ∈ wsX4_move := by first | exact fun w h9 => (List.mem_cons_of_mem _ (List.mem_append_left _ (List.mem_append_right _ h9))) | decide +kernel
  refine lv_aload_n hx hb dX4_move_0 rfl (lv_at hl 0 rfl) ?_
  have hPc := hP.sub (ws' := [(h0, .inr (4, [.ref wy, .int wl_, .int (nI ps), .int sta, .int hp, .int fd, .int pe, .int at_, .int go, .int tu, .int wa, .int ce, .int wt, .int un, .int fu, .int dr])), (wy, .inl (E.2.1 0, 8, .inl fy))]) [0, 1] rfl
  have hDc := hD.sub (ws' := [(h0, .inr (4, [.ref wy, .int wl_, .int (nI ps), .int sta, .int hp, .int fd, .int pe, .int at_, .int go, .int tu, .int wa, .int ce, .int wt, .int un, .int fu, .int dr])), (wy, .inl (E.2.1 0, 8, .inl fy))]) [0, 1] (by decide) rfl
  have hFc := va_free (wc := [(h0, .inr (4, [.ref wy, .int wl_, .int (nI ps), .int sta, .int hp, .int fd, .int pe, .int at_, .int go, .int tu, .int wa, .int ce, .int wt, .int un, .int fu, .int dr])), (wy, .inl (E.2.1 0, 8, .inl fy))]) hD hS hA [0, 1] rfl
  refine va_callv (va_runV (As := []) (rest := []) ⟨hx, hb, hml, hown, hts⟩ (c_X4_passPlaces l E h0 wy ps wl_ sta hp fd pe at_ go tu wa ce wt un fu dr fy s.heap.size hps) (cwV 0 hts gX4_move_X4_passPlaces rfl rfl rfl hdV_X4_passPlaces ⟨Nat.le_of_ble_eq_true rfl, Nat.le_of_ble_eq_true rfl⟩) ⟨pcW_blind, va_recv hK hPc (ci := 4) (q0 := 0) rfl rfl, (pcW_pre hPc hkn hDc hst hS hFc)⟩ rfl rfl hl.1 rfl (lv_room (Nat.le_of_ble_eq_true rfl)) dX4_move_1 ⟨Nat.le_of_ble_eq_true rfl, Nat.le_of_ble_eq_true rfl⟩) hS (fun q _ h => hFc q h) hFc (fun u t H1 locs ht hvm hw_2 hB hz1 hk1 hS => ?_)
  obtain ⟨u_3, u_4⟩ := u
  obtain ⟨hf_5, hP1, hD1⟩ := hB
  rw [ht] at hP1
  try dsimp only at hw_2
  obtain ⟨hP, hD⟩ := va_join (wr := [(bo_, .inr (0, [.ref sp, .ref pa, .int lt, .ref ru, .ref co, .ref tr])), (sp, .inl (E.2.1 0, 25, .inl fs_))]) (w1 := [(h0, .inr (4, [.ref wy, .int wl_, .int (nI u_3), .int u_4, .int hp, .int fd, .int pe, .int at_, .int go, .int tu, .int wa, .int ce, .int wt, .int un, .int fu, .int dr])), (wy, .inl (E.2.1 0, 8, .inl fy))]) hP hD [0, 1] [2, 3] rfl rfl (by decide) (by decide) hk1 hFc hP1 hD1
  generalize H1 = H at hP hS ⊢
  have hP : va_P E.1 vwCl [(bo_, .inr (0, [.ref sp, .ref pa, .int lt, .ref ru, .ref co, .ref tr])), (sp, .inl (E.2.1 0, 25, .inl fs_)), (h0, .inr (4, [.ref wy, .int wl_, .int (nI u_3), .int u_4, .int hp, .int fd, .int pe, .int at_, .int go, .int tu, .int wa, .int ce, .int wt, .int un, .int fu, .int dr])), (wy, .inl (E.2.1 0, 8, .inl fy))] H := hP
  have hD : va_D A [(bo_, .inr (0, [.ref sp, .ref pa, .int lt, .ref ru, .ref co, .ref tr])), (sp, .inl (E.2.1 0, 25, .inl fs_)), (h0, .inr (4, [.ref wy, .int wl_, .int (nI u_3), .int u_4, .int hp, .int fd, .int pe, .int at_, .int go, .int tu, .int wa, .int ce, .int wt, .int un, .int fu, .int dr])), (wy, .inl (E.2.1 0, 8, .inl fy))] := hD
  refine lv_aload_n hx hb dX4_move_4 rfl (lv_at hl 0 rfl) ?_
  refine va_get (D := E.1) (ci := 4) (v := .int u_4) (C := RX4) (T := TX4) (N := 16) hx hb hts inX4 hown hK hP 2 rfl rfl 3 (by decide) fl22 (fun _ h9 => h9) rfl dX4_move_5 ?_
  refine lv_if_eq (tgt := 12) hx hb dX4_move_8 (by decide) (fun c_6 => ?_) (fun c_6 => ?_)
  · refine lv_aload_n hx hb dX4_move_12 rfl (lv_at hl 0 rfl) ?_
    have hPc := hP.sub (ws' := [(h0, .inr (4, [.ref wy, .int wl_, .int (nI u_3), .int u_4, .int hp, .int fd, .int pe, .int at_, .int go, .int tu, .int wa, .int ce, .int wt, .int un, .int fu, .int dr])), (wy, .inl (E.2.1 0, 8, .inl fy))]) [2, 3] rfl
    have hDc := hD.sub (ws' := [(h0, .inr (4, [.ref wy, .int wl_, .int (nI u_3), .int u_4, .int hp, .int fd, .int pe, .int at_, .int go, .int tu, .int wa, .int ce, .int wt, .int un, .int fu, .int dr])), (wy, .inl (E.2.1 0, 8, .inl fy))]) [2, 3] (by decide) rfl
    have hFc := va_free (wc := [(h0, .inr (4, [.ref wy, .int wl_, .int (nI u_3), .int u_4, .int hp, .int fd, .int pe, .int at_, .int go, .int tu, .int wa, .int ce, .int wt, .int un, .int fu, .int dr])), (wy, .inl (E.2.1 0, 8, .inl fy))]) hD hS hA [2, 3] rfl
    refine va_calli (va_runV (As := []) (rest := []) ⟨hx, hb, hml, hown, hts⟩ (c_X4_course l E h0 wy u_3 wl_ u_4 hp fd pe at_ go tu wa ce wt un fu dr fy H.size ) (cwV 0 hts gX4_move_X4_course rfl rfl rfl hdV_X4_course ⟨Nat.le_of_ble_eq_true rfl, Nat.le_of_ble_eq_true rfl⟩) ⟨pcW_blind, va_recv hK hPc (ci := 4) (q0 := 0) rfl rfl, (pcW_pre hPc hkn hDc hst hS hFc)⟩ rfl rfl hl.1 rfl (lv_room (Nat.le_of_ble_eq_true rfl)) dX4_move_13 ⟨Nat.le_of_ble_eq_true rfl, Nat.le_of_ble_eq_true rfl⟩) hS (fun q _ h => hFc q h) hFc (fun r_7 u t H1 locs ht hvm hw_8 hB hz1 hk1 hS => ?_)
    obtain ⟨hP1, hD1⟩ := hB
    rw [ht] at hP1
    try dsimp only at hw_8
    obtain ⟨hP, hD⟩ := va_join (wr := [(bo_, .inr (0, [.ref sp, .ref pa, .int lt, .ref ru, .ref co, .ref tr])), (sp, .inl (E.2.1 0, 25, .inl fs_))]) (w1 := [(h0, .inr (4, [.ref wy, .int wl_, .int (nI u_3), .int u_4, .int hp, .int fd, .int pe, .int at_, .int go, .int tu, .int wa, .int ce, .int wt, .int un, .int fu, .int dr])), (wy, .inl (E.2.1 0, 8, .inl fy))]) hP hD [2, 3] [0, 1] rfl rfl (by decide) (by decide) hk1 hFc hP1 hD1
    generalize H1 = H at hP hS ⊢
    have hP : va_P E.1 vwCl [(bo_, .inr (0, [.ref sp, .ref pa, .int lt, .ref ru, .ref co, .ref tr])), (sp, .inl (E.2.1 0, 25, .inl fs_)), (h0, .inr (4, [.ref wy, .int wl_, .int (nI u_3), .int u_4, .int hp, .int fd, .int pe, .int at_, .int go, .int tu, .int wa, .int ce, .int wt, .int un, .int fu, .int dr])), (wy, .inl (E.2.1 0, 8, .inl fy))] H := hP
    have hD : va_D A [(bo_, .inr (0, [.ref sp, .ref pa, .int lt, .ref ru, .ref co, .ref tr])), (sp, .inl (E.2.1 0, 25, .inl fs_)), (h0, .inr (4, [.ref wy, .int wl_, .int (nI u_3), .int u_4, .int hp, .int fd, .int pe, .int at_, .int go, .int tu, .int wa, .int ce, .int wt, .int un, .int fu, .int dr])), (wy, .inl (E.2.1 0, 8, .inl fy))] := hD
    refine lv_iload_n hx hb dX4_move_16 rfl (lv_at hl 2 rfl) ?_
    refine lv_isub hx hb dX4_move_17 ?_
    refine lv_topi (fun x_9 ex_9 => ?_)
    refine va_mabs hx hb (by rw [hml]; exact hl.1.symm) hown (hts (.methodLink RX4 132 Lib.Math.abs.name) (by first | exact List.mem_of_getElem? (i := 2) rfl | decide +kernel)) (hts (.static Lib.Math.abs.name) (by first | exact List.mem_of_getElem? (i := 3) rfl | decide +kernel)) (hts (.initialized "java/lang/Math") (by first | exact List.mem_of_getElem? (i := 4) rfl | decide +kernel)) (hts (.code Lib.Math.abs.name Lib.Math.abs.code 1 (some .int)) (by first | exact List.mem_of_getElem? (i := 5) rfl | decide +kernel)) (Nat.le_of_ble_eq_true rfl) (Nat.le_of_ble_eq_true rfl) (Nat.le_of_ble_eq_true rfl) (Nat.le_of_ble_eq_true rfl) dX4_move_18 ?_
    refine lv_topi (fun x_10 ex_10 => ?_)
    refine lv_istore (lv' := [(4, .int x_10), (0, .ref h0), (1, .ref bo_), (2, .int di), (3, .int fo)]) hx hb dX4_move_21 hl (by decide) rfl (fun ls hl => ?_)
    refine lv_aload_n hx hb dX4_move_23 rfl (lv_at hl 1 rfl) ?_
    refine lv_dup hx hb dX4_move_24 rfl ?_
    refine va_get (D := E.1) (ci := 4) (v := .int go) (C := RX4) (T := TX4) (N := 16) hx hb hts inX4 hown hK hP 2 rfl rfl 8 (by decide) fl37 (fun _ h9 => h9) rfl dX4_move_25 ?_
    refine lv_aload_n hx hb dX4_move_28 rfl (lv_at hl 2 rfl) ?_
    refine lv_iload hx hb dX4_move_29 (lv_at hl 0 rfl) ?_
    refine lv_bipush (v := 8) hx hb dX4_move_31 (by decide) ?_
    refine lv_iload hx hb dX4_move_33 (lv_at hl 0 rfl) ?_
    refine lv_isub hx hb dX4_move_35 ?_
    refine lv_topi (fun x_11 ex_11 => ?_)
    refine va_mmin hx hb (by rw [hml]; exact hl.1.symm) hown (hts (.methodLink RX4 138 Lib.Math.min.name) (by first | exact List.mem_of_getElem? (i := 7) rfl | decide +kernel)) (hts (.static Lib.Math.min.name) (by first | exact List.mem_of_getElem? (i := 8) rfl | decide +kernel)) (hts (.initialized "java/lang/Math") (by first | exact List.mem_of_getElem? (i := 4) rfl | decide +kernel)) (hts (.code Lib.Math.min.name Lib.Math.min.code 2 (some .int)) (by first | exact List.mem_of_getElem? (i := 9) rfl | decide +kernel)) (Nat.le_of_ble_eq_true rfl) (Nat.le_of_ble_eq_true rfl) (Nat.le_of_ble_eq_true rfl) (Nat.le_of_ble_eq_true rfl) dX4_move_36 ?_
    refine lv_topi (fun x_12 ex_12 => ?_)
    refine lv_iload_n hx hb dX4_move_39 rfl (lv_at hl 4 rfl) ?_
    have hPc := hP.sub (ws' := [(bo_, .inr (0, [.ref sp, .ref pa, .int lt, .ref ru, .ref co, .ref tr])), (sp, .inl (E.2.1 0, 25, .inl fs_))]) [0, 1] rfl
    have hDc := hD.sub (ws' := [(bo_, .inr (0, [.ref sp, .ref pa, .int lt, .ref ru, .ref co, .ref tr])), (sp, .inl (E.2.1 0, 25, .inl fs_))]) [0, 1] (by decide) rfl
    have hFc := va_free (wc := [(bo_, .inr (0, [.ref sp, .ref pa, .int lt, .ref ru, .ref co, .ref tr])), (sp, .inl (E.2.1 0, 25, .inl fs_))]) hD hS hA [0, 1] rfl
    refine va_calli (va_runV (As := [.int x_12, .int fo]) (rest := [.int go, .ref h0]) ⟨hx, hb, hml, hown, hts⟩ (c_X0_speedAt l E bo_ sp pa ru co tr lt x_12 fo fs_ H.size ) (cwV 2 hts gX4_move_X0_speedAt rfl rfl rfl hdV_X0_speedAt ⟨Nat.le_of_ble_eq_true rfl, Nat.le_of_ble_eq_true rfl⟩) ⟨pcW_blind, va_recv hK hPc (ci := 0) (q0 := 0) rfl rfl, (pcW_pre hPc hkn hDc hst hS hFc)⟩ rfl rfl hl.1 rfl (lv_room (Nat.le_of_ble_eq_true rfl)) dX4_move_40 ⟨Nat.le_of_ble_eq_true rfl, Nat.le_of_ble_eq_true rfl⟩) hS (fun q _ h => hFc q h) hFc (fun r_13 u t H1 locs ht hvm hw_14 hB hz1 hk1 hS => ?_)
    obtain ⟨hP1, hD1⟩ := hB
    rw [ht] at hP1
    try dsimp only at hw_14
    obtain ⟨hP, hD⟩ := va_join (wr := [(h0, .inr (4, [.ref wy, .int wl_, .int (nI u_3), .int u_4, .int hp, .int fd, .int pe, .int at_, .int go, .int tu, .int wa, .int ce, .int wt, .int un, .int fu, .int dr])), (wy, .inl (E.2.1 0, 8, .inl fy))]) (w1 := [(bo_, .inr (0, [.ref sp, .ref pa, .int lt, .ref ru, .ref co, .ref tr])), (sp, .inl (E.2.1 0, 25, .inl fs_))]) hP hD [0, 1] [2, 3] rfl rfl (by decide) (by decide) hk1 hFc hP1 hD1
    generalize H1 = H at hP hS ⊢
    have hP : va_P E.1 vwCl [(h0, .inr (4, [.ref wy, .int wl_, .int (nI u_3), .int u_4, .int hp, .int fd, .int pe, .int at_, .int go, .int tu, .int wa, .int ce, .int wt, .int un, .int fu, .int dr])), (wy, .inl (E.2.1 0, 8, .inl fy)), (bo_, .inr (0, [.ref sp, .ref pa, .int lt, .ref ru, .ref co, .ref tr])), (sp, .inl (E.2.1 0, 25, .inl fs_))] H := hP
    have hD : va_D A [(h0, .inr (4, [.ref wy, .int wl_, .int (nI u_3), .int u_4, .int hp, .int fd, .int pe, .int at_, .int go, .int tu, .int wa, .int ce, .int wt, .int un, .int fu, .int dr])), (wy, .inl (E.2.1 0, 8, .inl fy)), (bo_, .inr (0, [.ref sp, .ref pa, .int lt, .ref ru, .ref co, .ref tr])), (sp, .inl (E.2.1 0, 25, .inl fs_))] := hD
    refine lv_iadd hx hb dX4_move_43 ?_
    refine lv_topi (fun x_15 ex_15 => ?_)
    refine va_put (D := E.1) (ci := 4) (v := .int x_15) (ty := .int) (C := RX4) (T := TX4) (N := 16) hx hb hts inX4 tyX4 tyX4_ok nmX4 hown hK hP hD hS 0 rfl rfl 8 (by decide) fl37 (fun _ h9 => h9) rfl (by decide +kernel) rfl rfl (Nat.le_of_ble_eq_true rfl) dX4_move_44 (fun H locs hP hD hS => ?_)
    have hP : va_P E.1 vwCl [(h0, .inr (4, [.ref wy, .int wl_, .int (nI u_3), .int u_4, .int hp, .int fd, .int pe, .int at_, .int x_15, .int tu, .int wa, .int ce, .int wt, .int un, .int fu, .int dr])), (wy, .inl (E.2.1 0, 8, .inl fy)), (bo_, .inr (0, [.ref sp, .ref pa, .int lt, .ref ru, .ref co, .ref tr])), (sp, .inl (E.2.1 0, 25, .inl fs_))] H := hP
    have hD : va_D A [(h0, .inr (4, [.ref wy, .int wl_, .int (nI u_3), .int u_4, .int hp, .int fd, .int pe, .int at_, .int x_15, .int tu, .int wa, .int ce, .int wt, .int un, .int fu, .int dr])), (wy, .inl (E.2.1 0, 8, .inl fy)), (bo_, .inr (0, [.ref sp, .ref pa, .int lt, .ref ru, .ref co, .ref tr])), (sp, .inl (E.2.1 0, 25, .inl fs_))] := hD
    have hPl := hP.sub (ws' := [(h0, .inr (4, [.ref wy, .int wl_, .int (nI u_3), .int u_4, .int hp, .int fd, .int pe, .int at_, .int x_15, .int tu, .int wa, .int ce, .int wt, .int un, .int fu, .int dr])), (wy, .inl (E.2.1 0, 8, .inl fy)), (bo_, .inr (0, [.ref sp, .ref pa, .int lt, .ref ru, .ref co, .ref tr])), (sp, .inl (E.2.1 0, 25, .inl fs_))]) [0, 1, 2, 3] rfl
    have hDl := hD.sub (ws' := [(h0, .inr (4, [.ref wy, .int wl_, .int (nI u_3), .int u_4, .int hp, .int fd, .int pe, .int at_, .int x_15, .int tu, .int wa, .int ce, .int wt, .int un, .int fu, .int dr])), (wy, .inl (E.2.1 0, 8, .inl fy)), (bo_, .inr (0, [.ref sp, .ref pa, .int lt, .ref ru, .ref co, .ref tr])), (sp, .inl (E.2.1 0, 25, .inl fs_))]) [0, 1, 2, 3] (by decide) rfl
    refine lg_move E h0 wy wl_ hp fd pe tu wa wt un fu dr fy bo_ sp pa ru co tr lt fs_ hx hb hml hown hts hkn hst hA  (fun n_16 n_17 n_18 n_19 n_20 H locs ls hps hP hD hS hl => ?_) (x_15.toInt.toNat + 1) u_3 u_4 at_ x_15 ce _ _ _ (Nat.lt_succ_self _) hf_5 hPl hDl hS (lv_sub hl [1] rfl)
    have hP : va_P E.1 vwCl [(h0, .inr (4, [.ref wy, .int wl_, .int (nI n_16), .int n_17, .int hp, .int fd, .int pe, .int n_18, .int n_19, .int tu, .int wa, .int n_20, .int wt, .int un, .int fu, .int dr])), (wy, .inl (E.2.1 0, 8, .inl fy)), (bo_, .inr (0, [.ref sp, .ref pa, .int lt, .ref ru, .ref co, .ref tr])), (sp, .inl (E.2.1 0, 25, .inl fs_))] H := hP
    have hD : va_D A [(h0, .inr (4, [.ref wy, .int wl_, .int (nI n_16), .int n_17, .int hp, .int fd, .int pe, .int n_18, .int n_19, .int tu, .int wa, .int n_20, .int wt, .int un, .int fu, .int dr])), (wy, .inl (E.2.1 0, 8, .inl fy)), (bo_, .inr (0, [.ref sp, .ref pa, .int lt, .ref ru, .ref co, .ref tr])), (sp, .inl (E.2.1 0, 25, .inl fs_))] := hD
    have hP9 := hP.sub (ws' := [(h0, .inr (4, [.ref wy, .int wl_, .int (nI n_16), .int n_17, .int hp, .int fd, .int pe, .int n_18, .int n_19, .int tu, .int wa, .int n_20, .int wt, .int un, .int fu, .int dr])), (wy, .inl (E.2.1 0, 8, .inl fy)), (bo_, .inr (0, [.ref sp, .ref pa, .int lt, .ref ru, .ref co, .ref tr])), (sp, .inl (E.2.1 0, 25, .inl fs_))]) [0, 1, 2, 3] rfl
    have hD9 := hD.sub (ws' := [(h0, .inr (4, [.ref wy, .int wl_, .int (nI n_16), .int n_17, .int hp, .int fd, .int pe, .int n_18, .int n_19, .int tu, .int wa, .int n_20, .int wt, .int un, .int fu, .int dr])), (wy, .inl (E.2.1 0, 8, .inl fy)), (bo_, .inr (0, [.ref sp, .ref pa, .int lt, .ref ru, .ref co, .ref tr])), (sp, .inl (E.2.1 0, 25, .inl fs_))]) [0, 1, 2, 3] (by decide) rfl
    exact W.vret hx hb hr (fun t ht hW => ⟨⟨(n_16, n_17, n_18, n_19, n_20), rfl, trivial, hps, by rw [ht]; exact hP9, hD9⟩, hS.F ht⟩) hS.2.2 dX4_move_81
  · have hP9 := hP.sub (ws' := [(h0, .inr (4, [.ref wy, .int wl_, .int (nI u_3), .int u_4, .int hp, .int fd, .int pe, .int at_, .int go, .int tu, .int wa, .int ce, .int wt, .int un, .int fu, .int dr])), (wy, .inl (E.2.1 0, 8, .inl fy)), (bo_, .inr (0, [.ref sp, .ref pa, .int lt, .ref ru, .ref co, .ref tr])), (sp, .inl (E.2.1 0, 25, .inl fs_))]) [2, 3, 0, 1] rfl
    have hD9 := hD.sub (ws' := [(h0, .inr (4, [.ref wy, .int wl_, .int (nI u_3), .int u_4, .int hp, .int fd, .int pe, .int at_, .int go, .int tu, .int wa, .int ce, .int wt, .int un, .int fu, .int dr])), (wy, .inl (E.2.1 0, 8, .inl fy)), (bo_, .inr (0, [.ref sp, .ref pa, .int lt, .ref ru, .ref co, .ref tr])), (sp, .inl (E.2.1 0, 25, .inl fs_))]) [2, 3, 0, 1] (by decide) rfl
    exact W.vret hx hb hr (fun t ht hW => ⟨⟨(u_3, u_4, at_, go, ce), rfl, trivial, hf_5, by rw [ht]; exact hP9, hD9⟩, hS.F ht⟩) hS.2.2 dX4_move_11
set_option maxHeartbeats 4000000 in
set_option maxRecDepth 100000 in
theorem c_X4_work (l : Launch) (E : vE) (h0 : Nat) (wy : Nat) (ps : Nat) (wl_ : Int32) (sta : Int32) (hp : Int32) (fd : Int32) (pe : Int32) (at_ : Int32) (go : Int32) (tu : Int32) (wa : Int32) (ce : Int32) (wt : Int32) (un : Int32) (fu : Int32) (dr : Int32) (fy : Nat → Int32) (bo_ : Nat) (sp : Nat) (pa : Nat) (ru : Nat) (co : Nat) (tr : Nat) (lt : Int32) (fs_ : Nat → Int32) (fp : Nat → Int32) (s1 : Nat) (s2 : Nat) (s3 : Nat) (s4 : Nat) (sz_ : Int32) (r1 : Nat → Int32) (r2 : Nat → Int32) (r3 : Nat → Int32) (r4 : Nat → Int32) (bx : Nat) (bc : Int32) (lc : Int32) (mf : Int32) (li : Int32) (fx : Nat → Int32) (se : Nat) (wi : Nat) (po : Nat) (fw : Nat → Int32) (fo_ : Nat → Int32) (sz : Nat) (hps : ps ≤ 8) : Met l yX4_work wsX4_work ({ frames := 5, cells := 0, slots := 0, locals := 106 }) (pcW E [.ref h0, .ref bo_, .ref se] sz [(h0, .inr (4, [.ref wy, .int wl_, .int (nI ps), .int sta, .int hp, .int fd, .int pe, .int at_, .int go, .int tu, .int wa, .int ce, .int wt, .int un, .int fu, .int dr])), (wy, .inl (E.2.1 0, 8, .inl fy)), (bo_, .inr (0, [.ref sp, .ref pa, .int lt, .ref ru, .ref co, .ref tr])), (sp, .inl (E.2.1 0, 25, .inl fs_)), (pa, .inl (E.2.1 0, 4, .inl fp)), (ru, .inr (7, [.ref s1, .ref s2, .ref s3, .ref s4, .int sz_])), (s1, .inl (E.2.1 0, 12, .inl r1)), (s2, .inl (E.2.1 1, 12, .inl r2)), (s3, .inl (E.2.1 0, 12, .inl r3)), (s4, .inl (E.2.1 0, 12, .inl r4)), (co, .inr (1, [.ref bx, .int bc, .int lc, .int mf, .int li])), (bx, .inl (E.2.1 0, 72, .inl fx)), (se, .inr (8, [.ref wi, .ref po])), (wi, .inl (E.2.1 0, 288, .inl fw)), (po, .inl (E.2.1 0, 10, .inl fo_))]) (va_Qi (fun (r : Int32) (u : Nat × Int32 × Int32 × Int32 × Int32 × Int32 × Int32 × Int32 × Int32 × Int32 × Int32 × Int32 × (Nat → Int32) × Int32 × (Nat → Int32)) => match u with | (ps2, wl_2, sta2, at_2, go2, tu2, wa2, ce2, wt2, un2, fu2, dr2, fy2, lt2, fp2) => r = 0 ∨ r = 1) (fun (u : Nat × Int32 × Int32 × Int32 × Int32 × Int32 × Int32 × Int32 × Int32 × Int32 × Int32 × Int32 × (Nat → Int32) × Int32 × (Nat → Int32)) (t : State) => match u with | (ps2, wl_2, sta2, at_2, go2, tu2, wa2, ce2, wt2, un2, fu2, dr2, fy2, lt2, fp2) => (ps2 ≤ 8) ∧ wB E (va_A [(h0, .inr (4, [.ref wy, .int wl_, .int (nI ps), .int sta, .int hp, .int fd, .int pe, .int at_, .int go, .int tu, .int wa, .int ce, .int wt, .int un, .int fu, .int dr])), (wy, .inl (E.2.1 0, 8, .inl fy)), (bo_, .inr (0, [.ref sp, .ref pa, .int lt, .ref ru, .ref co, .ref tr])), (sp, .inl (E.2.1 0, 25, .inl fs_)), (pa, .inl (E.2.1 0, 4, .inl fp)), (ru, .inr (7, [.ref s1, .ref s2, .ref s3, .ref s4, .int sz_])), (s1, .inl (E.2.1 0, 12, .inl r1)), (s2, .inl (E.2.1 1, 12, .inl r2)), (s3, .inl (E.2.1 0, 12, .inl r3)), (s4, .inl (E.2.1 0, 12, .inl r4)), (co, .inr (1, [.ref bx, .int bc, .int lc, .int mf, .int li])), (bx, .inl (E.2.1 0, 72, .inl fx)), (se, .inr (8, [.ref wi, .ref po])), (wi, .inl (E.2.1 0, 288, .inl fw)), (po, .inl (E.2.1 0, 10, .inl fo_))] sz) [(h0, .inr (4, [.ref wy, .int wl_2, .int (nI ps2), .int sta2, .int hp, .int fd, .int pe, .int at_2, .int go2, .int tu2, .int wa2, .int ce2, .int wt2, .int un2, .int fu2, .int dr2])), (wy, .inl (E.2.1 0, 8, .inl fy2)), (bo_, .inr (0, [.ref sp, .ref pa, .int lt2, .ref ru, .ref co, .ref tr])), (sp, .inl (E.2.1 0, 25, .inl fs_)), (pa, .inl (E.2.1 0, 4, .inl fp2)), (ru, .inr (7, [.ref s1, .ref s2, .ref s3, .ref s4, .int sz_])), (s1, .inl (E.2.1 0, 12, .inl r1)), (s2, .inl (E.2.1 1, 12, .inl r2)), (s3, .inl (E.2.1 0, 12, .inl r3)), (s4, .inl (E.2.1 0, 12, .inl r4)), (co, .inr (1, [.ref bx, .int bc, .int lc, .int mf, .int li])), (bx, .inl (E.2.1 0, 72, .inl fx)), (se, .inr (8, [.ref wi, .ref po])), (wi, .inl (E.2.1 0, 288, .inl fw)), (po, .inl (E.2.1 0, 10, .inl fo_))] t) (va_A [(h0, .inr (4, [.ref wy, .int wl_, .int (nI ps), .int sta, .int hp, .int fd, .int pe, .int at_, .int go, .int tu, .int wa, .int ce, .int wt, .int un, .int fu, .int dr])), (wy, .inl (E.2.1 0, 8, .inl fy)), (bo_, .inr (0, [.ref sp, .ref pa, .int lt, .ref ru, .ref co, .ref tr])), (sp, .inl (E.2.1 0, 25, .inl fs_)), (pa, .inl (E.2.1 0, 4, .inl fp)), (ru, .inr (7, [.ref s1, .ref s2, .ref s3, .ref s4, .int sz_])), (s1, .inl (E.2.1 0, 12, .inl r1)), (s2, .inl (E.2.1 1, 12, .inl r2)), (s3, .inl (E.2.1 0, 12, .inl r3)), (s4, .inl (E.2.1 0, 12, .inl r4)), (co, .inr (1, [.ref bx, .int bc, .int lc, .int mf, .int li])), (bx, .inl (E.2.1 0, 72, .inl fx)), (se, .inr (8, [.ref wi, .ref po])), (wi, .inl (E.2.1 0, 288, .inl fw)), (po, .inl (E.2.1 0, 10, .inl fo_))] sz)) 0 0 (va_A [(h0, .inr (4, [.ref wy, .int wl_, .int (nI ps), .int sta, .int hp, .int fd, .int pe, .int at_, .int go, .int tu, .int wa, .int ce, .int wt, .int un, .int fu, .int dr])), (wy, .inl (E.2.1 0, 8, .inl fy)), (bo_, .inr (0, [.ref sp, .ref pa, .int lt, .ref ru, .ref co, .ref tr])), (sp, .inl (E.2.1 0, 25, .inl fs_)), (pa, .inl (E.2.1 0, 4, .inl fp)), (ru, .inr (7, [.ref s1, .ref s2, .ref s3, .ref s4, .int sz_])), (s1, .inl (E.2.1 0, 12, .inl r1)), (s2, .inl (E.2.1 1, 12, .inl r2)), (s3, .inl (E.2.1 0, 12, .inl r3)), (s4, .inl (E.2.1 0, 12, .inl r4)), (co, .inr (1, [.ref bx, .int bc, .int lc, .int mf, .int li])), (bx, .inl (E.2.1 0, 72, .inl fx)), (se, .inr (8, [.ref wi, .ref po])), (wi, .inl (E.2.1 0, 288, .inl fw)), (po, .inl (E.2.1 0, 10, .inl fo_))] sz) := by
  refine Met.ofW (cc := cX4_work) (maxL := 7) (ret := (some .boolean)) (by decide) rfl ?_
  intro p e s m args below meth c s₁ B hml hv
  obtain ⟨rfl, hsz, hP, hkn, hD0, hst⟩ := hv
  have hx := B.exec
  have hb := B.bytes
  have hr := B.returns
  have hts := atoms_spec (ws := wsX4_work) B.pre
  have hown : s.vm.findClass RX4 = some m.cls := findClass_of_methodNamed B.named
  have hlocks := B.notSynchronized
  subst hsz
  have hD := hD0.self (sz := s.heap.size)
  have hK := hkn.1
  have hAO := hkn.2.2.1
  generalize hAe : va_A [(h0, .inr (4, [.ref wy, .int wl_, .int (nI ps), .int sta, .int hp, .int fd, .int pe, .int at_, .int go, .int tu, .int wa, .int ce, .int wt, .int un, .int fu, .int dr])), (wy, .inl (E.2.1 0, 8, .inl fy)), (bo_, .inr (0, [.ref sp, .ref pa, .int lt, .ref ru, .ref co, .ref tr])), (sp, .inl (E.2.1 0, 25, .inl fs_)), (pa, .inl (E.2.1 0, 4, .inl fp)), (ru, .inr (7, [.ref s1, .ref s2, .ref s3, .ref s4, .int sz_])), (s1, .inl (E.2.1 0, 12, .inl r1)), (s2, .inl (E.2.1 1, 12, .inl r2)), (s3, .inl (E.2.1 0, 12, .inl r3)), (s4, .inl (E.2.1 0, 12, .inl r4)), (co, .inr (1, [.ref bx, .int bc, .int lc, .int mf, .int li])), (bx, .inl (E.2.1 0, 72, .inl fx)), (se, .inr (8, [.ref wi, .ref po])), (wi, .inl (E.2.1 0, 288, .inl fw)), (po, .inl (E.2.1 0, 10, .inl fo_))] s.heap.size = A at hD hst ⊢
  have hA : ∀ q : Nat, s.heap.size ≤ q → A q := fun q h => by rw [← hAe]; exact Or.inr h
  have hS : va_S A s.heap s.heap [] := va_S.rf
  have hP : va_P E.1 vwCl [(h0, .inr (4, [.ref wy, .int wl_, .int (nI ps), .int sta, .int hp, .int fd, .int pe, .int at_, .int go, .int tu, .int wa, .int ce, .int wt, .int un, .int fu, .int dr])), (wy, .inl (E.2.1 0, 8, .inl fy)), (bo_, .inr (0, [.ref sp, .ref pa, .int lt, .ref ru, .ref co, .ref tr])), (sp, .inl (E.2.1 0, 25, .inl fs_)), (pa, .inl (E.2.1 0, 4, .inl fp)), (ru, .inr (7, [.ref s1, .ref s2, .ref s3, .ref s4, .int sz_])), (s1, .inl (E.2.1 0, 12, .inl r1)), (s2, .inl (E.2.1 1, 12, .inl r2)), (s3, .inl (E.2.1 0, 12, .inl r3)), (s4, .inl (E.2.1 0, 12, .inl r4)), (co, .inr (1, [.ref bx, .int bc, .int lc, .int mf, .int li])), (bx, .inl (E.2.1 0, 72, .inl fx)), (se, .inr (8, [.ref wi, .ref po])), (wi, .inl (E.2.1 0, 288, .inl fw)), (po, .inl (E.2.1 0, 10, .inl fo_))] s.heap := hP
  have hl := lv_entry ([.ref h0, .ref bo_, .ref se]) (n := 7) (Nat.le_of_ble_eq_true rfl)
  rw [lg_entry_eq]
  generalize (lg_sl ([.ref h0, .ref bo_, .ref se]) ++ List.replicate (7 - (lg_sl ([.ref h0, .ref bo_, .ref se])).length) Slot.unset).toArray = ls at hl ⊢
  have hl : lv_has ls 7 [(0, .ref h0), (1, .ref bo_), (2, .ref se)] := hl
  have fl22 := hts (.fieldLink RX4 22 "BoatsHome$Passage" "state" "I") (by first | exact List.mem_of_getElem? (i := 6) rfl | decide +kernel)
  have fl28 := hts (.fieldLink RX4 28 "BoatsHome$Passage" "firstDay" "I") (by first | exact List.mem_of_getElem? (i := 3) rfl | decide +kernel)
  have fl31 := hts (.fieldLink RX4 31 "BoatsHome$Passage" "people" "I") (by first | exact List.mem_of_getElem? (i := 8) rfl | decide +kernel)
  have fl34 := hts (.fieldLink RX4 34 "BoatsHome$Passage" "at" "I") (by first | exact List.mem_of_getElem? (i := 2) rfl | decide +kernel)
  have fl40 := hts (.fieldLink RX4 40 "BoatsHome$Passage" "turned" "Z") (by first | exact List.mem_of_getElem? (i := 9) rfl | decide +kernel)
  have fl44 := hts (.fieldLink RX4 44 "BoatsHome$Passage" "watches" "I") (by first | exact List.mem_of_getElem? (i := 1) rfl | decide +kernel)
  have fl50 := hts (.fieldLink RX4 50 "BoatsHome$Passage" "waited" "I") (by first | exact List.mem_of_getElem? (i := 10) rfl | decide +kernel)
  have fl59 := hts (.fieldLink RX4 59 "BoatsHome$Passage" "dry" "I") (by first | exact List.mem_of_getElem? (i := 11) rfl | decide +kernel)
  have fl76 := hts (.fieldLink RX4 76 "BoatsHome$Boat" "rules" "LBoatsHome$Rules;") (by first | exact List.mem_of_getElem? (i := 4) rfl | decide +kernel)
  have fl82 := hts (.fieldLink RX4 82 "BoatsHome$Boat" "litres" "I") (by first | exact List.mem_of_getElem? (i := 5) rfl | decide +kernel)
  have fl94 := hts (.fieldLink RX4 94 "BoatsHome$Boat" "cover" "LBoatsHome$Cover;") (by first | exact List.mem_of_getElem? (i := 7) rfl | decide +kernel)
  have inX0 : ∀ w ∈ u_ws RX0 TX0 6, w ∈ wsX4_work := by first | exact fun w h9 => (List.mem_cons_of_mem _ (List.mem_append_left _ (List.mem_append_left _ (List.mem_append_left _ (List.mem_append_right _ h9))))) | decide +kernel
  have inX4 : ∀ w ∈ u_ws RX4 TX4 16, w ∈ wsX4_work := by first | exact fun w h9 => (List.mem_cons_of_mem _ (List.mem_append_left _ (List.mem_append_left _ (List.mem_append_left _ (List.mem_append_left _ (List.mem_append_right _ h9)))))) | decide +kernel
  refine lv_aload_n hx hb dX4_work_0 rfl (lv_at hl 0 rfl) ?_
  refine va_get (D := E.1) (ci := 4) (v := .int wa) (C := RX4) (T := TX4) (N := 16) hx hb hts inX4 hown hK hP 0 rfl rfl 10 (by decide) fl44 (fun _ h9 => h9) rfl dX4_work_1 ?_
  refine lv_iconst (v := 4) hx hb dX4_work_4 (by decide) ?_
  refine lv_idiv hx hb dX4_work_5 (by decide) ?_
  refine lv_topi (fun x_1 ex_1 => ?_)
  refine lv_istore_n (lv' := [(3, .int x_1), (0, .ref h0), (1, .ref bo_), (2, .ref se)]) hx hb dX4_work_6 rfl hl (by decide) rfl (fun ls hl => ?_)
  refine lv_aload_n hx hb dX4_work_7 rfl (lv_at hl 3 rfl) ?_
  refine lv_aload_n hx hb dX4_work_8 rfl (lv_at hl 1 rfl) ?_
  refine va_get (D := E.1) (ci := 4) (v := .int at_) (C := RX4) (T := TX4) (N := 16) hx hb hts inX4 hown hK hP 0 rfl rfl 7 (by decide) fl34 (fun _ h9 => h9) rfl dX4_work_9 ?_
  refine lv_aload_n hx hb dX4_work_12 rfl (lv_at hl 1 rfl) ?_
  refine va_get (D := E.1) (ci := 4) (v := .int fd) (C := RX4) (T := TX4) (N := 16) hx hb hts inX4 hown hK hP 0 rfl rfl 5 (by decide) fl28 (fun _ h9 => h9) rfl dX4_work_13 ?_
  refine lv_iload_n hx hb dX4_work_16 rfl (lv_at hl 0 rfl) ?_
  refine lv_iadd hx hb dX4_work_17 ?_
  refine lv_topi (fun x_2 ex_2 => ?_)
  have hPc := hP.sub (ws' := [(se, .inr (8, [.ref wi, .ref po])), (wi, .inl (E.2.1 0, 288, .inl fw))]) [12, 13] rfl
  have hDc := hD.sub (ws' := [(se, .inr (8, [.ref wi, .ref po])), (wi, .inl (E.2.1 0, 288, .inl fw))]) [12, 13] (by decide) rfl
  have hFc := va_free (wc := [(se, .inr (8, [.ref wi, .ref po])), (wi, .inl (E.2.1 0, 288, .inl fw))]) hD hS hA [12, 13] rfl
  refine va_calli (va_runV (As := [.int at_, .int x_2]) (rest := []) ⟨hx, hb, hml, hown, hts⟩ (c_X8_windAt l E se wi po fw at_ x_2 s.heap.size ) (cwV 2 hts gX4_work_X8_windAt rfl rfl rfl hdV_X8_windAt ⟨Nat.le_of_ble_eq_true rfl, Nat.le_of_ble_eq_true rfl⟩) ⟨pcW_blind, va_recv hK hPc (ci := 8) (q0 := 0) rfl rfl, (pcW_pre hPc hkn hDc hst hS hFc)⟩ rfl rfl hl.1 rfl (lv_room (Nat.le_of_ble_eq_true rfl)) dX4_work_18 ⟨Nat.le_of_ble_eq_true rfl, Nat.le_of_ble_eq_true rfl⟩) hS (fun q _ h => hFc q h) hFc (fun r_3 u t H1 locs ht hvm hw_4 hB hz1 hk1 hS => ?_)
  obtain ⟨hP1, hD1⟩ := hB
  rw [ht] at hP1
  try dsimp only at hw_4
  obtain ⟨hP, hD⟩ := va_join (wr := [(h0, .inr (4, [.ref wy, .int wl_, .int (nI ps), .int sta, .int hp, .int fd, .int pe, .int at_, .int go, .int tu, .int wa, .int ce, .int wt, .int un, .int fu, .int dr])), (wy, .inl (E.2.1 0, 8, .inl fy)), (bo_, .inr (0, [.ref sp, .ref pa, .int lt, .ref ru, .ref co, .ref tr])), (sp, .inl (E.2.1 0, 25, .inl fs_)), (pa, .inl (E.2.1 0, 4, .inl fp)), (ru, .inr (7, [.ref s1, .ref s2, .ref s3, .ref s4, .int sz_])), (s1, .inl (E.2.1 0, 12, .inl r1)), (s2, .inl (E.2.1 1, 12, .inl r2)), (s3, .inl (E.2.1 0, 12, .inl r3)), (s4, .inl (E.2.1 0, 12, .inl r4)), (co, .inr (1, [.ref bx, .int bc, .int lc, .int mf, .int li])), (bx, .inl (E.2.1 0, 72, .inl fx)), (po, .inl (E.2.1 0, 10, .inl fo_))]) (w1 := [(se, .inr (8, [.ref wi, .ref po])), (wi, .inl (E.2.1 0, 288, .inl fw))]) hP hD [12, 13] [0, 1, 2, 3, 4, 5, 6, 7, 8, 9, 10, 11, 14] rfl rfl (by decide) (by decide) hk1 hFc hP1 hD1
  generalize H1 = H at hP hS ⊢
  have hP : va_P E.1 vwCl [(h0, .inr (4, [.ref wy, .int wl_, .int (nI ps), .int sta, .int hp, .int fd, .int pe, .int at_, .int go, .int tu, .int wa, .int ce, .int wt, .int un, .int fu, .int dr])), (wy, .inl (E.2.1 0, 8, .inl fy)), (bo_, .inr (0, [.ref sp, .ref pa, .int lt, .ref ru, .ref co, .ref tr])), (sp, .inl (E.2.1 0, 25, .inl fs_)), (pa, .inl (E.2.1 0, 4, .inl fp)), (ru, .inr (7, [.ref s1, .ref s2, .ref s3, .ref s4, .int sz_])), (s1, .inl (E.2.1 0, 12, .inl r1)), (s2, .inl (E.2.1 1, 12, .inl r2)), (s3, .inl (E.2.1 0, 12, .inl r3)), (s4, .inl (E.2.1 0, 12, .inl r4)), (co, .inr (1, [.ref bx, .int bc, .int lc, .int mf, .int li])), (bx, .inl (E.2.1 0, 72, .inl fx)), (po, .inl (E.2.1 0, 10, .inl fo_)), (se, .inr (8, [.ref wi, .ref po])), (wi, .inl (E.2.1 0, 288, .inl fw))] H := hP
  have hD : va_D A [(h0, .inr (4, [.ref wy, .int wl_, .int (nI ps), .int sta, .int hp, .int fd, .int pe, .int at_, .int go, .int tu, .int wa, .int ce, .int wt, .int un, .int fu, .int dr])), (wy, .inl (E.2.1 0, 8, .inl fy)), (bo_, .inr (0, [.ref sp, .ref pa, .int lt, .ref ru, .ref co, .ref tr])), (sp, .inl (E.2.1 0, 25, .inl fs_)), (pa, .inl (E.2.1 0, 4, .inl fp)), (ru, .inr (7, [.ref s1, .ref s2, .ref s3, .ref s4, .int sz_])), (s1, .inl (E.2.1 0, 12, .inl r1)), (s2, .inl (E.2.1 1, 12, .inl r2)), (s3, .inl (E.2.1 0, 12, .inl r3)), (s4, .inl (E.2.1 0, 12, .inl r4)), (co, .inr (1, [.ref bx, .int bc, .int lc, .int mf, .int li])), (bx, .inl (E.2.1 0, 72, .inl fx)), (po, .inl (E.2.1 0, 10, .inl fo_)), (se, .inr (8, [.ref wi, .ref po])), (wi, .inl (E.2.1 0, 288, .inl fw))] := hD
  refine lv_istore (lv' := [(4, .int r_3), (3, .int x_1), (0, .ref h0), (1, .ref bo_), (2, .ref se)]) hx hb dX4_work_21 hl (by decide) rfl (fun ls hl => ?_)
  refine lv_iload hx hb dX4_work_23 (lv_at hl 0 rfl) ?_
  refine lv_bipush (v := 10) hx hb dX4_work_25 (by decide) ?_
  refine lv_irem hx hb dX4_work_27 (by decide) ?_
  refine lv_topi (fun x_5 ex_5 => ?_)
  refine lv_istore (lv' := [(5, .int x_5), (4, .int r_3), (3, .int x_1), (0, .ref h0), (1, .ref bo_), (2, .ref se)]) hx hb dX4_work_28 hl (by decide) rfl (fun ls hl => ?_)
  refine lv_aload_n hx hb dX4_work_30 rfl (lv_at hl 4 rfl) ?_
  refine va_get (D := E.1) (ci := 0) (v := .ref ru) (C := RX0) (T := TX0) (N := 6) hx hb hts inX0 hown hK hP 2 rfl rfl 3 (by decide) fl76 (fun _ h9 => h9) rfl dX4_work_31 ?_
  refine lv_iload hx hb dX4_work_34 (lv_at hl 0 rfl) ?_
  refine lv_aload_n hx hb dX4_work_36 rfl (lv_at hl 4 rfl) ?_
  refine va_get (D := E.1) (ci := 0) (v := .int lt) (C := RX0) (T := TX0) (N := 6) hx hb hts inX0 hown hK hP 2 rfl rfl 2 (by decide) fl82 (fun _ h9 => h9) rfl dX4_work_37 ?_
  refine lv_iload_n hx hb dX4_work_40 rfl (lv_at hl 2 rfl) ?_
  refine lv_aload_n hx hb dX4_work_41 rfl (lv_at hl 4 rfl) ?_
  have hPc := hP.sub (ws' := [(bo_, .inr (0, [.ref sp, .ref pa, .int lt, .ref ru, .ref co, .ref tr])), (pa, .inl (E.2.1 0, 4, .inl fp))]) [2, 4] rfl
  have hDc := hD.sub (ws' := [(bo_, .inr (0, [.ref sp, .ref pa, .int lt, .ref ru, .ref co, .ref tr])), (pa, .inl (E.2.1 0, 4, .inl fp))]) [2, 4] (by decide) rfl
  have hFc := va_free (wc := [(bo_, .inr (0, [.ref sp, .ref pa, .int lt, .ref ru, .ref co, .ref tr])), (pa, .inl (E.2.1 0, 4, .inl fp))]) hD hS hA [2, 4] rfl
  refine va_calli (va_runV (As := []) (rest := [.int x_1, .int lt, .int x_5, .ref ru]) ⟨hx, hb, hml, hown, hts⟩ (c_X0_broken l E bo_ sp pa ru co tr lt fp H.size ) (cwV 0 hts gX4_work_X0_broken rfl rfl rfl hdV_X0_broken ⟨Nat.le_of_ble_eq_true rfl, Nat.le_of_ble_eq_true rfl⟩) ⟨pcW_blind, va_recv hK hPc (ci := 0) (q0 := 0) rfl rfl, (pcW_pre hPc hkn hDc hst hS hFc)⟩ rfl rfl hl.1 rfl (lv_room (Nat.le_of_ble_eq_true rfl)) dX4_work_42 ⟨Nat.le_of_ble_eq_true rfl, Nat.le_of_ble_eq_true rfl⟩) hS (fun q _ h => hFc q h) hFc (fun r_6 u t H1 locs ht hvm hw_7 hB hz1 hk1 hS => ?_)
  obtain ⟨hP1, hD1⟩ := hB
  rw [ht] at hP1
  try dsimp only at hw_7
  obtain ⟨hP, hD⟩ := va_join (wr := [(h0, .inr (4, [.ref wy, .int wl_, .int (nI ps), .int sta, .int hp, .int fd, .int pe, .int at_, .int go, .int tu, .int wa, .int ce, .int wt, .int un, .int fu, .int dr])), (wy, .inl (E.2.1 0, 8, .inl fy)), (sp, .inl (E.2.1 0, 25, .inl fs_)), (ru, .inr (7, [.ref s1, .ref s2, .ref s3, .ref s4, .int sz_])), (s1, .inl (E.2.1 0, 12, .inl r1)), (s2, .inl (E.2.1 1, 12, .inl r2)), (s3, .inl (E.2.1 0, 12, .inl r3)), (s4, .inl (E.2.1 0, 12, .inl r4)), (co, .inr (1, [.ref bx, .int bc, .int lc, .int mf, .int li])), (bx, .inl (E.2.1 0, 72, .inl fx)), (po, .inl (E.2.1 0, 10, .inl fo_)), (se, .inr (8, [.ref wi, .ref po])), (wi, .inl (E.2.1 0, 288, .inl fw))]) (w1 := [(bo_, .inr (0, [.ref sp, .ref pa, .int lt, .ref ru, .ref co, .ref tr])), (pa, .inl (E.2.1 0, 4, .inl fp))]) hP hD [2, 4] [0, 1, 3, 5, 6, 7, 8, 9, 10, 11, 12, 13, 14] rfl rfl (by decide) (by decide) hk1 hFc hP1 hD1
  generalize H1 = H at hP hS ⊢
  have hP : va_P E.1 vwCl [(h0, .inr (4, [.ref wy, .int wl_, .int (nI ps), .int sta, .int hp, .int fd, .int pe, .int at_, .int go, .int tu, .int wa, .int ce, .int wt, .int un, .int fu, .int dr])), (wy, .inl (E.2.1 0, 8, .inl fy)), (sp, .inl (E.2.1 0, 25, .inl fs_)), (ru, .inr (7, [.ref s1, .ref s2, .ref s3, .ref s4, .int sz_])), (s1, .inl (E.2.1 0, 12, .inl r1)), (s2, .inl (E.2.1 1, 12, .inl r2)), (s3, .inl (E.2.1 0, 12, .inl r3)), (s4, .inl (E.2.1 0, 12, .inl r4)), (co, .inr (1, [.ref bx, .int bc, .int lc, .int mf, .int li])), (bx, .inl (E.2.1 0, 72, .inl fx)), (po, .inl (E.2.1 0, 10, .inl fo_)), (se, .inr (8, [.ref wi, .ref po])), (wi, .inl (E.2.1 0, 288, .inl fw)), (bo_, .inr (0, [.ref sp, .ref pa, .int lt, .ref ru, .ref co, .ref tr])), (pa, .inl (E.2.1 0, 4, .inl fp))] H := hP
  have hD : va_D A [(h0, .inr (4, [.ref wy, .int wl_, .int (nI ps), .int sta, .int hp, .int fd, .int pe, .int at_, .int go, .int tu, .int wa, .int ce, .int wt, .int un, .int fu, .int dr])), (wy, .inl (E.2.1 0, 8, .inl fy)), (sp, .inl (E.2.1 0, 25, .inl fs_)), (ru, .inr (7, [.ref s1, .ref s2, .ref s3, .ref s4, .int sz_])), (s1, .inl (E.2.1 0, 12, .inl r1)), (s2, .inl (E.2.1 1, 12, .inl r2)), (s3, .inl (E.2.1 0, 12, .inl r3)), (s4, .inl (E.2.1 0, 12, .inl r4)), (co, .inr (1, [.ref bx, .int bc, .int lc, .int mf, .int li])), (bx, .inl (E.2.1 0, 72, .inl fx)), (po, .inl (E.2.1 0, 10, .inl fo_)), (se, .inr (8, [.ref wi, .ref po])), (wi, .inl (E.2.1 0, 288, .inl fw)), (bo_, .inr (0, [.ref sp, .ref pa, .int lt, .ref ru, .ref co, .ref tr])), (pa, .inl (E.2.1 0, 4, .inl fp))] := hD
  have hPc := hP.sub (ws' := [(ru, .inr (7, [.ref s1, .ref s2, .ref s3, .ref s4, .int sz_])), (s1, .inl (E.2.1 0, 12, .inl r1)), (s2, .inl (E.2.1 1, 12, .inl r2)), (s3, .inl (E.2.1 0, 12, .inl r3)), (s4, .inl (E.2.1 0, 12, .inl r4))]) [3, 4, 5, 6, 7] rfl
  have hDc := hD.sub (ws' := [(ru, .inr (7, [.ref s1, .ref s2, .ref s3, .ref s4, .int sz_])), (s1, .inl (E.2.1 0, 12, .inl r1)), (s2, .inl (E.2.1 1, 12, .inl r2)), (s3, .inl (E.2.1 0, 12, .inl r3)), (s4, .inl (E.2.1 0, 12, .inl r4))]) [3, 4, 5, 6, 7] (by decide) rfl
  have hFc := va_free (wc := [(ru, .inr (7, [.ref s1, .ref s2, .ref s3, .ref s4, .int sz_])), (s1, .inl (E.2.1 0, 12, .inl r1)), (s2, .inl (E.2.1 1, 12, .inl r2)), (s3, .inl (E.2.1 0, 12, .inl r3)), (s4, .inl (E.2.1 0, 12, .inl r4))]) hD hS hA [3, 4, 5, 6, 7] rfl
  refine va_calli (va_runV (As := [.int x_5, .int lt, .int x_1, .int r_6]) (rest := []) ⟨hx, hb, hml, hown, hts⟩ (c_X7_actAt l E ru s1 s2 s3 s4 sz_ r1 r2 r3 r4 x_5 lt x_1 r_6 H.size ) (cwV 4 hts gX4_work_X7_actAt rfl rfl rfl hdV_X7_actAt ⟨Nat.le_of_ble_eq_true rfl, Nat.le_of_ble_eq_true rfl⟩) ⟨pcW_blind, va_recv hK hPc (ci := 7) (q0 := 0) rfl rfl, (pcW_pre hPc hkn hDc hst hS hFc)⟩ rfl rfl hl.1 rfl (lv_room (Nat.le_of_ble_eq_true rfl)) dX4_work_45 ⟨Nat.le_of_ble_eq_true rfl, Nat.le_of_ble_eq_true rfl⟩) hS (fun q _ h => hFc q h) hFc (fun r_8 u t H1 locs ht hvm hw_9 hB hz1 hk1 hS => ?_)
  obtain ⟨hP1, hD1⟩ := hB
  rw [ht] at hP1
  try dsimp only at hw_9
  obtain ⟨hP, hD⟩ := va_join (wr := [(h0, .inr (4, [.ref wy, .int wl_, .int (nI ps), .int sta, .int hp, .int fd, .int pe, .int at_, .int go, .int tu, .int wa, .int ce, .int wt, .int un, .int fu, .int dr])), (wy, .inl (E.2.1 0, 8, .inl fy)), (sp, .inl (E.2.1 0, 25, .inl fs_)), (co, .inr (1, [.ref bx, .int bc, .int lc, .int mf, .int li])), (bx, .inl (E.2.1 0, 72, .inl fx)), (po, .inl (E.2.1 0, 10, .inl fo_)), (se, .inr (8, [.ref wi, .ref po])), (wi, .inl (E.2.1 0, 288, .inl fw)), (bo_, .inr (0, [.ref sp, .ref pa, .int lt, .ref ru, .ref co, .ref tr])), (pa, .inl (E.2.1 0, 4, .inl fp))]) (w1 := [(ru, .inr (7, [.ref s1, .ref s2, .ref s3, .ref s4, .int sz_])), (s1, .inl (E.2.1 0, 12, .inl r1)), (s2, .inl (E.2.1 1, 12, .inl r2)), (s3, .inl (E.2.1 0, 12, .inl r3)), (s4, .inl (E.2.1 0, 12, .inl r4))]) hP hD [3, 4, 5, 6, 7] [0, 1, 2, 8, 9, 10, 11, 12, 13, 14] rfl rfl (by decide) (by decide) hk1 hFc hP1 hD1
  generalize H1 = H at hP hS ⊢
  have hP : va_P E.1 vwCl [(h0, .inr (4, [.ref wy, .int wl_, .int (nI ps), .int sta, .int hp, .int fd, .int pe, .int at_, .int go, .int tu, .int wa, .int ce, .int wt, .int un, .int fu, .int dr])), (wy, .inl (E.2.1 0, 8, .inl fy)), (sp, .inl (E.2.1 0, 25, .inl fs_)), (co, .inr (1, [.ref bx, .int bc, .int lc, .int mf, .int li])), (bx, .inl (E.2.1 0, 72, .inl fx)), (po, .inl (E.2.1 0, 10, .inl fo_)), (se, .inr (8, [.ref wi, .ref po])), (wi, .inl (E.2.1 0, 288, .inl fw)), (bo_, .inr (0, [.ref sp, .ref pa, .int lt, .ref ru, .ref co, .ref tr])), (pa, .inl (E.2.1 0, 4, .inl fp)), (ru, .inr (7, [.ref s1, .ref s2, .ref s3, .ref s4, .int sz_])), (s1, .inl (E.2.1 0, 12, .inl r1)), (s2, .inl (E.2.1 1, 12, .inl r2)), (s3, .inl (E.2.1 0, 12, .inl r3)), (s4, .inl (E.2.1 0, 12, .inl r4))] H := hP
  have hD : va_D A [(h0, .inr (4, [.ref wy, .int wl_, .int (nI ps), .int sta, .int hp, .int fd, .int pe, .int at_, .int go, .int tu, .int wa, .int ce, .int wt, .int un, .int fu, .int dr])), (wy, .inl (E.2.1 0, 8, .inl fy)), (sp, .inl (E.2.1 0, 25, .inl fs_)), (co, .inr (1, [.ref bx, .int bc, .int lc, .int mf, .int li])), (bx, .inl (E.2.1 0, 72, .inl fx)), (po, .inl (E.2.1 0, 10, .inl fo_)), (se, .inr (8, [.ref wi, .ref po])), (wi, .inl (E.2.1 0, 288, .inl fw)), (bo_, .inr (0, [.ref sp, .ref pa, .int lt, .ref ru, .ref co, .ref tr])), (pa, .inl (E.2.1 0, 4, .inl fp)), (ru, .inr (7, [.ref s1, .ref s2, .ref s3, .ref s4, .int sz_])), (s1, .inl (E.2.1 0, 12, .inl r1)), (s2, .inl (E.2.1 1, 12, .inl r2)), (s3, .inl (E.2.1 0, 12, .inl r3)), (s4, .inl (E.2.1 0, 12, .inl r4))] := hD
  refine lv_istore (lv' := [(6, .int r_8), (5, .int x_5), (4, .int r_3), (3, .int x_1), (0, .ref h0), (1, .ref bo_), (2, .ref se)]) hx hb dX4_work_48 hl (by decide) rfl (fun ls hl => ?_)
  refine lv_iload hx hb dX4_work_50 (lv_at hl 0 rfl) ?_
  refine lv_iconst (v := 2) hx hb dX4_work_52 (by decide) ?_
  refine lv_icmp_ne (tgt := 63) hx hb dX4_work_53 (by decide) (fun c_10 => ?_) (fun c_10 => ?_)
  · refine lv_aload_n hx hb dX4_work_63 rfl (lv_at hl 4 rfl) ?_
    refine lv_aload_n hx hb dX4_work_64 rfl (lv_at hl 5 rfl) ?_
    refine va_get (D := E.1) (ci := 0) (v := .ref co) (C := RX0) (T := TX0) (N := 6) hx hb hts inX0 hown hK hP 8 rfl rfl 4 (by decide) fl94 (fun _ h9 => h9) rfl dX4_work_65 ?_
    refine lv_aload_n hx hb dX4_work_68 rfl (lv_at hl 4 rfl) ?_
    refine va_get (D := E.1) (ci := 4) (v := .int at_) (C := RX4) (T := TX4) (N := 16) hx hb hts inX4 hown hK hP 0 rfl rfl 7 (by decide) fl34 (fun _ h9 => h9) rfl dX4_work_69 ?_
    refine lv_aload_n hx hb dX4_work_72 rfl (lv_at hl 4 rfl) ?_
    refine va_get (D := E.1) (ci := 4) (v := .int fd) (C := RX4) (T := TX4) (N := 16) hx hb hts inX4 hown hK hP 0 rfl rfl 5 (by decide) fl28 (fun _ h9 => h9) rfl dX4_work_73 ?_
    refine lv_iload_n hx hb dX4_work_76 rfl (lv_at hl 3 rfl) ?_
    refine lv_iadd hx hb dX4_work_77 ?_
    refine lv_topi (fun x_11 ex_11 => ?_)
    refine lv_aload_n hx hb dX4_work_78 rfl (lv_at hl 4 rfl) ?_
    refine va_get (D := E.1) (ci := 4) (v := .int pe) (C := RX4) (T := TX4) (N := 16) hx hb hts inX4 hown hK hP 0 rfl rfl 6 (by decide) fl31 (fun _ h9 => h9) rfl dX4_work_79 ?_
    refine lv_iload hx hb dX4_work_82 (lv_at hl 1 rfl) ?_
    have hPc := hP.sub (ws' := [(co, .inr (1, [.ref bx, .int bc, .int lc, .int mf, .int li])), (bx, .inl (E.2.1 0, 72, .inl fx))]) [3, 4] rfl
    have hDc := hD.sub (ws' := [(co, .inr (1, [.ref bx, .int bc, .int lc, .int mf, .int li])), (bx, .inl (E.2.1 0, 72, .inl fx))]) [3, 4] (by decide) rfl
    have hFc := va_free (wc := [(co, .inr (1, [.ref bx, .int bc, .int lc, .int mf, .int li])), (bx, .inl (E.2.1 0, 72, .inl fx))]) hD hS hA [3, 4] rfl
    refine va_calli (va_runV (As := [.int at_, .int x_11, .int pe, .int x_5]) (rest := [.ref h0]) ⟨hx, hb, hml, hown, hts⟩ (c_X1_holds l E co bx bc lc mf li fx at_ x_11 pe x_5 H.size ) (cwV 4 hts gX4_work_X1_holds rfl rfl rfl hdV_X1_holds ⟨Nat.le_of_ble_eq_true rfl, Nat.le_of_ble_eq_true rfl⟩) ⟨pcW_blind, va_recv hK hPc (ci := 1) (q0 := 0) rfl rfl, (pcW_pre hPc hkn hDc hst hS hFc)⟩ rfl rfl hl.1 rfl (lv_room (Nat.le_of_ble_eq_true rfl)) dX4_work_84 ⟨Nat.le_of_ble_eq_true rfl, Nat.le_of_ble_eq_true rfl⟩) hS (fun q _ h => hFc q h) hFc (fun r_12 u t H1 locs ht hvm hw_13 hB hz1 hk1 hS => ?_)
    obtain ⟨hP1, hD1⟩ := hB
    rw [ht] at hP1
    try dsimp only at hw_13
    obtain ⟨hP, hD⟩ := va_join (wr := [(h0, .inr (4, [.ref wy, .int wl_, .int (nI ps), .int sta, .int hp, .int fd, .int pe, .int at_, .int go, .int tu, .int wa, .int ce, .int wt, .int un, .int fu, .int dr])), (wy, .inl (E.2.1 0, 8, .inl fy)), (sp, .inl (E.2.1 0, 25, .inl fs_)), (po, .inl (E.2.1 0, 10, .inl fo_)), (se, .inr (8, [.ref wi, .ref po])), (wi, .inl (E.2.1 0, 288, .inl fw)), (bo_, .inr (0, [.ref sp, .ref pa, .int lt, .ref ru, .ref co, .ref tr])), (pa, .inl (E.2.1 0, 4, .inl fp)), (ru, .inr (7, [.ref s1, .ref s2, .ref s3, .ref s4, .int sz_])), (s1, .inl (E.2.1 0, 12, .inl r1)), (s2, .inl (E.2.1 1, 12, .inl r2)), (s3, .inl (E.2.1 0, 12, .inl r3)), (s4, .inl (E.2.1 0, 12, .inl r4))]) (w1 := [(co, .inr (1, [.ref bx, .int bc, .int lc, .int mf, .int li])), (bx, .inl (E.2.1 0, 72, .inl fx))]) hP hD [3, 4] [0, 1, 2, 5, 6, 7, 8, 9, 10, 11, 12, 13, 14] rfl rfl (by decide) (by decide) hk1 hFc hP1 hD1
    generalize H1 = H at hP hS ⊢
    have hP : va_P E.1 vwCl [(h0, .inr (4, [.ref wy, .int wl_, .int (nI ps), .int sta, .int hp, .int fd, .int pe, .int at_, .int go, .int tu, .int wa, .int ce, .int wt, .int un, .int fu, .int dr])), (wy, .inl (E.2.1 0, 8, .inl fy)), (sp, .inl (E.2.1 0, 25, .inl fs_)), (po, .inl (E.2.1 0, 10, .inl fo_)), (se, .inr (8, [.ref wi, .ref po])), (wi, .inl (E.2.1 0, 288, .inl fw)), (bo_, .inr (0, [.ref sp, .ref pa, .int lt, .ref ru, .ref co, .ref tr])), (pa, .inl (E.2.1 0, 4, .inl fp)), (ru, .inr (7, [.ref s1, .ref s2, .ref s3, .ref s4, .int sz_])), (s1, .inl (E.2.1 0, 12, .inl r1)), (s2, .inl (E.2.1 1, 12, .inl r2)), (s3, .inl (E.2.1 0, 12, .inl r3)), (s4, .inl (E.2.1 0, 12, .inl r4)), (co, .inr (1, [.ref bx, .int bc, .int lc, .int mf, .int li])), (bx, .inl (E.2.1 0, 72, .inl fx))] H := hP
    have hD : va_D A [(h0, .inr (4, [.ref wy, .int wl_, .int (nI ps), .int sta, .int hp, .int fd, .int pe, .int at_, .int go, .int tu, .int wa, .int ce, .int wt, .int un, .int fu, .int dr])), (wy, .inl (E.2.1 0, 8, .inl fy)), (sp, .inl (E.2.1 0, 25, .inl fs_)), (po, .inl (E.2.1 0, 10, .inl fo_)), (se, .inr (8, [.ref wi, .ref po])), (wi, .inl (E.2.1 0, 288, .inl fw)), (bo_, .inr (0, [.ref sp, .ref pa, .int lt, .ref ru, .ref co, .ref tr])), (pa, .inl (E.2.1 0, 4, .inl fp)), (ru, .inr (7, [.ref s1, .ref s2, .ref s3, .ref s4, .int sz_])), (s1, .inl (E.2.1 0, 12, .inl r1)), (s2, .inl (E.2.1 1, 12, .inl r2)), (s3, .inl (E.2.1 0, 12, .inl r3)), (s4, .inl (E.2.1 0, 12, .inl r4)), (co, .inr (1, [.ref bx, .int bc, .int lc, .int mf, .int li])), (bx, .inl (E.2.1 0, 72, .inl fx))] := hD
    have hPc := hP.sub (ws' := [(h0, .inr (4, [.ref wy, .int wl_, .int (nI ps), .int sta, .int hp, .int fd, .int pe, .int at_, .int go, .int tu, .int wa, .int ce, .int wt, .int un, .int fu, .int dr]))]) [0] rfl
    have hDc := hD.sub (ws' := [(h0, .inr (4, [.ref wy, .int wl_, .int (nI ps), .int sta, .int hp, .int fd, .int pe, .int at_, .int go, .int tu, .int wa, .int ce, .int wt, .int un, .int fu, .int dr]))]) [0] (by decide) rfl
    have hFc := va_free (wc := [(h0, .inr (4, [.ref wy, .int wl_, .int (nI ps), .int sta, .int hp, .int fd, .int pe, .int at_, .int go, .int tu, .int wa, .int ce, .int wt, .int un, .int fu, .int dr]))]) hD hS hA [0] rfl
    refine va_callv (va_runV (As := [.int r_12]) (rest := []) ⟨hx, hb, hml, hown, hts⟩ (c_X4_noteCover l E h0 wy ps wl_ sta hp fd pe at_ go tu wa ce wt un fu dr fy r_12 H.size ) (cwV 1 hts gX4_work_X4_noteCover rfl rfl rfl hdV_X4_noteCover ⟨Nat.le_of_ble_eq_true rfl, Nat.le_of_ble_eq_true rfl⟩) ⟨pcW_blind, va_recv hK hPc (ci := 4) (q0 := 0) rfl rfl, (pcW_pre hPc hkn hDc hst hS hFc)⟩ rfl rfl hl.1 rfl (lv_room (Nat.le_of_ble_eq_true rfl)) dX4_work_87 ⟨Nat.le_of_ble_eq_true rfl, Nat.le_of_ble_eq_true rfl⟩) hS (fun q _ h => hFc q h) hFc (fun u t H1 locs ht hvm hw_15 hB hz1 hk1 hS => ?_)
    obtain ⟨u_16, u_17⟩ := u
    obtain ⟨hP1, hD1⟩ := hB
    rw [ht] at hP1
    try dsimp only at hw_15
    obtain ⟨hP, hD⟩ := va_join (wr := [(wy, .inl (E.2.1 0, 8, .inl fy)), (sp, .inl (E.2.1 0, 25, .inl fs_)), (po, .inl (E.2.1 0, 10, .inl fo_)), (se, .inr (8, [.ref wi, .ref po])), (wi, .inl (E.2.1 0, 288, .inl fw)), (bo_, .inr (0, [.ref sp, .ref pa, .int lt, .ref ru, .ref co, .ref tr])), (pa, .inl (E.2.1 0, 4, .inl fp)), (ru, .inr (7, [.ref s1, .ref s2, .ref s3, .ref s4, .int sz_])), (s1, .inl (E.2.1 0, 12, .inl r1)), (s2, .inl (E.2.1 1, 12, .inl r2)), (s3, .inl (E.2.1 0, 12, .inl r3)), (s4, .inl (E.2.1 0, 12, .inl r4)), (co, .inr (1, [.ref bx, .int bc, .int lc, .int mf, .int li])), (bx, .inl (E.2.1 0, 72, .inl fx))]) (w1 := [(h0, .inr (4, [.ref wy, .int wl_, .int (nI ps), .int sta, .int hp, .int fd, .int pe, .int at_, .int go, .int tu, .int wa, .int ce, .int wt, .int u_16, .int u_17, .int dr]))]) hP hD [0] [1, 2, 3, 4, 5, 6, 7, 8, 9, 10, 11, 12, 13, 14] rfl rfl (by decide) (by decide) hk1 hFc hP1 hD1
    generalize H1 = H at hP hS ⊢
    have hP : va_P E.1 vwCl [(wy, .inl (E.2.1 0, 8, .inl fy)), (sp, .inl (E.2.1 0, 25, .inl fs_)), (po, .inl (E.2.1 0, 10, .inl fo_)), (se, .inr (8, [.ref wi, .ref po])), (wi, .inl (E.2.1 0, 288, .inl fw)), (bo_, .inr (0, [.ref sp, .ref pa, .int lt, .ref ru, .ref co, .ref tr])), (pa, .inl (E.2.1 0, 4, .inl fp)), (ru, .inr (7, [.ref s1, .ref s2, .ref s3, .ref s4, .int sz_])), (s1, .inl (E.2.1 0, 12, .inl r1)), (s2, .inl (E.2.1 1, 12, .inl r2)), (s3, .inl (E.2.1 0, 12, .inl r3)), (s4, .inl (E.2.1 0, 12, .inl r4)), (co, .inr (1, [.ref bx, .int bc, .int lc, .int mf, .int li])), (bx, .inl (E.2.1 0, 72, .inl fx)), (h0, .inr (4, [.ref wy, .int wl_, .int (nI ps), .int sta, .int hp, .int fd, .int pe, .int at_, .int go, .int tu, .int wa, .int ce, .int wt, .int u_16, .int u_17, .int dr]))] H := hP
    have hD : va_D A [(wy, .inl (E.2.1 0, 8, .inl fy)), (sp, .inl (E.2.1 0, 25, .inl fs_)), (po, .inl (E.2.1 0, 10, .inl fo_)), (se, .inr (8, [.ref wi, .ref po])), (wi, .inl (E.2.1 0, 288, .inl fw)), (bo_, .inr (0, [.ref sp, .ref pa, .int lt, .ref ru, .ref co, .ref tr])), (pa, .inl (E.2.1 0, 4, .inl fp)), (ru, .inr (7, [.ref s1, .ref s2, .ref s3, .ref s4, .int sz_])), (s1, .inl (E.2.1 0, 12, .inl r1)), (s2, .inl (E.2.1 1, 12, .inl r2)), (s3, .inl (E.2.1 0, 12, .inl r3)), (s4, .inl (E.2.1 0, 12, .inl r4)), (co, .inr (1, [.ref bx, .int bc, .int lc, .int mf, .int li])), (bx, .inl (E.2.1 0, 72, .inl fx)), (h0, .inr (4, [.ref wy, .int wl_, .int (nI ps), .int sta, .int hp, .int fd, .int pe, .int at_, .int go, .int tu, .int wa, .int ce, .int wt, .int u_16, .int u_17, .int dr]))] := hD
    refine lv_iload hx hb dX4_work_90 (lv_at hl 0 rfl) ?_
    refine lv_iconst (v := 1) hx hb dX4_work_92 (by decide) ?_
    refine lv_icmp_ne (tgt := 108) hx hb dX4_work_93 (by decide) (fun c_18 => ?_) (fun c_18 => ?_)
    · refine lv_iload hx hb dX4_work_108 (lv_at hl 0 rfl) ?_
      refine lv_if_ne (tgt := 126) hx hb dX4_work_110 (by decide) (fun c_19 => ?_) (fun c_19 => ?_)
      · refine lv_aload_n hx hb dX4_work_126 rfl (lv_at hl 4 rfl) ?_
        refine lv_aload_n hx hb dX4_work_127 rfl (lv_at hl 5 rfl) ?_
        refine lv_iload hx hb dX4_work_128 (lv_at hl 2 rfl) ?_
        refine lv_bipush (v := 10) hx hb dX4_work_130 (by decide) ?_
        refine lv_idiv hx hb dX4_work_132 (by decide) ?_
        refine lv_topi (fun x_20 ex_20 => ?_)
        refine lv_iload hx hb dX4_work_133 (lv_at hl 1 rfl) ?_
        have hPc := hP.sub (ws' := [(h0, .inr (4, [.ref wy, .int wl_, .int (nI ps), .int sta, .int hp, .int fd, .int pe, .int at_, .int go, .int tu, .int wa, .int ce, .int wt, .int u_16, .int u_17, .int dr])), (wy, .inl (E.2.1 0, 8, .inl fy)), (bo_, .inr (0, [.ref sp, .ref pa, .int lt, .ref ru, .ref co, .ref tr])), (sp, .inl (E.2.1 0, 25, .inl fs_))]) [14, 0, 5, 1] rfl
        have hDc := hD.sub (ws' := [(h0, .inr (4, [.ref wy, .int wl_, .int (nI ps), .int sta, .int hp, .int fd, .int pe, .int at_, .int go, .int tu, .int wa, .int ce, .int wt, .int u_16, .int u_17, .int dr])), (wy, .inl (E.2.1 0, 8, .inl fy)), (bo_, .inr (0, [.ref sp, .ref pa, .int lt, .ref ru, .ref co, .ref tr])), (sp, .inl (E.2.1 0, 25, .inl fs_))]) [14, 0, 5, 1] (by decide) rfl
        have hFc := va_free (wc := [(h0, .inr (4, [.ref wy, .int wl_, .int (nI ps), .int sta, .int hp, .int fd, .int pe, .int at_, .int go, .int tu, .int wa, .int ce, .int wt, .int u_16, .int u_17, .int dr])), (wy, .inl (E.2.1 0, 8, .inl fy)), (bo_, .inr (0, [.ref sp, .ref pa, .int lt, .ref ru, .ref co, .ref tr])), (sp, .inl (E.2.1 0, 25, .inl fs_))]) hD hS hA [14, 0, 5, 1] rfl
        refine va_callv (va_runV (As := [.ref bo_, .int x_20, .int x_5]) (rest := []) ⟨hx, hb, hml, hown, hts⟩ (c_X4_move l E h0 wy ps wl_ sta hp fd pe at_ go tu wa ce wt u_16 u_17 dr fy bo_ sp pa ru co tr lt fs_ x_20 x_5 H.size hps) (cwV 3 hts gX4_work_X4_move rfl rfl rfl hdV_X4_move ⟨Nat.le_of_ble_eq_true rfl, Nat.le_of_ble_eq_true rfl⟩) ⟨pcW_blind, va_recv hK hPc (ci := 4) (q0 := 0) rfl rfl, (pcW_pre hPc hkn hDc hst hS hFc)⟩ rfl rfl hl.1 rfl (lv_room (Nat.le_of_ble_eq_true rfl)) dX4_work_135 ⟨Nat.le_of_ble_eq_true rfl, Nat.le_of_ble_eq_true rfl⟩) hS (fun q _ h => hFc q h) hFc (fun u t H1 locs ht hvm hw_22 hB hz1 hk1 hS => ?_)
        obtain ⟨u_23, u_24, u_25, u_26, u_27⟩ := u
        obtain ⟨hf_28, hP1, hD1⟩ := hB
        rw [ht] at hP1
        try dsimp only at hw_22
        obtain ⟨hP, hD⟩ := va_join (wr := [(po, .inl (E.2.1 0, 10, .inl fo_)), (se, .inr (8, [.ref wi, .ref po])), (wi, .inl (E.2.1 0, 288, .inl fw)), (pa, .inl (E.2.1 0, 4, .inl fp)), (ru, .inr (7, [.ref s1, .ref s2, .ref s3, .ref s4, .int sz_])), (s1, .inl (E.2.1 0, 12, .inl r1)), (s2, .inl (E.2.1 1, 12, .inl r2)), (s3, .inl (E.2.1 0, 12, .inl r3)), (s4, .inl (E.2.1 0, 12, .inl r4)), (co, .inr (1, [.ref bx, .int bc, .int lc, .int mf, .int li])), (bx, .inl (E.2.1 0, 72, .inl fx))]) (w1 := [(h0, .inr (4, [.ref wy, .int wl_, .int (nI u_23), .int u_24, .int hp, .int fd, .int pe, .int u_25, .int u_26, .int tu, .int wa, .int u_27, .int wt, .int u_16, .int u_17, .int dr])), (wy, .inl (E.2.1 0, 8, .inl fy)), (bo_, .inr (0, [.ref sp, .ref pa, .int lt, .ref ru, .ref co, .ref tr])), (sp, .inl (E.2.1 0, 25, .inl fs_))]) hP hD [14, 0, 5, 1] [2, 3, 4, 6, 7, 8, 9, 10, 11, 12, 13] rfl rfl (by decide) (by decide) hk1 hFc hP1 hD1
        generalize H1 = H at hP hS ⊢
        have hP : va_P E.1 vwCl [(po, .inl (E.2.1 0, 10, .inl fo_)), (se, .inr (8, [.ref wi, .ref po])), (wi, .inl (E.2.1 0, 288, .inl fw)), (pa, .inl (E.2.1 0, 4, .inl fp)), (ru, .inr (7, [.ref s1, .ref s2, .ref s3, .ref s4, .int sz_])), (s1, .inl (E.2.1 0, 12, .inl r1)), (s2, .inl (E.2.1 1, 12, .inl r2)), (s3, .inl (E.2.1 0, 12, .inl r3)), (s4, .inl (E.2.1 0, 12, .inl r4)), (co, .inr (1, [.ref bx, .int bc, .int lc, .int mf, .int li])), (bx, .inl (E.2.1 0, 72, .inl fx)), (h0, .inr (4, [.ref wy, .int wl_, .int (nI u_23), .int u_24, .int hp, .int fd, .int pe, .int u_25, .int u_26, .int tu, .int wa, .int u_27, .int wt, .int u_16, .int u_17, .int dr])), (wy, .inl (E.2.1 0, 8, .inl fy)), (bo_, .inr (0, [.ref sp, .ref pa, .int lt, .ref ru, .ref co, .ref tr])), (sp, .inl (E.2.1 0, 25, .inl fs_))] H := hP
        have hD : va_D A [(po, .inl (E.2.1 0, 10, .inl fo_)), (se, .inr (8, [.ref wi, .ref po])), (wi, .inl (E.2.1 0, 288, .inl fw)), (pa, .inl (E.2.1 0, 4, .inl fp)), (ru, .inr (7, [.ref s1, .ref s2, .ref s3, .ref s4, .int sz_])), (s1, .inl (E.2.1 0, 12, .inl r1)), (s2, .inl (E.2.1 1, 12, .inl r2)), (s3, .inl (E.2.1 0, 12, .inl r3)), (s4, .inl (E.2.1 0, 12, .inl r4)), (co, .inr (1, [.ref bx, .int bc, .int lc, .int mf, .int li])), (bx, .inl (E.2.1 0, 72, .inl fx)), (h0, .inr (4, [.ref wy, .int wl_, .int (nI u_23), .int u_24, .int hp, .int fd, .int pe, .int u_25, .int u_26, .int tu, .int wa, .int u_27, .int wt, .int u_16, .int u_17, .int dr])), (wy, .inl (E.2.1 0, 8, .inl fy)), (bo_, .inr (0, [.ref sp, .ref pa, .int lt, .ref ru, .ref co, .ref tr])), (sp, .inl (E.2.1 0, 25, .inl fs_))] := hD
        refine lv_aload_n hx hb dX4_work_138 rfl (lv_at hl 4 rfl) ?_
        refine lv_dup hx hb dX4_work_139 rfl ?_
        refine va_get (D := E.1) (ci := 4) (v := .int dr) (C := RX4) (T := TX4) (N := 16) hx hb hts inX4 hown hK hP 11 rfl rfl 15 (by decide) fl59 (fun _ h9 => h9) rfl dX4_work_140 ?_
        refine lv_aload_n hx hb dX4_work_143 rfl (lv_at hl 5 rfl) ?_
        refine lv_aload_n hx hb dX4_work_144 rfl (lv_at hl 4 rfl) ?_
        refine va_get (D := E.1) (ci := 4) (v := .int pe) (C := RX4) (T := TX4) (N := 16) hx hb hts inX4 hown hK hP 11 rfl rfl 6 (by decide) fl31 (fun _ h9 => h9) rfl dX4_work_145 ?_
        have hPc := hP.sub (ws' := [(bo_, .inr (0, [.ref sp, .ref pa, .int lt, .ref ru, .ref co, .ref tr]))]) [13] rfl
        have hDc := hD.sub (ws' := [(bo_, .inr (0, [.ref sp, .ref pa, .int lt, .ref ru, .ref co, .ref tr]))]) [13] (by decide) rfl
        have hFc := va_free (wc := [(bo_, .inr (0, [.ref sp, .ref pa, .int lt, .ref ru, .ref co, .ref tr]))]) hD hS hA [13] rfl
        refine va_calli (va_runV (As := [.int pe]) (rest := [.int dr, .ref h0]) ⟨hx, hb, hml, hown, hts⟩ (c_X0_drink l E bo_ sp pa ru co tr lt pe H.size ) (cwV 1 hts gX4_work_X0_drink rfl rfl rfl hdV_X0_drink ⟨Nat.le_of_ble_eq_true rfl, Nat.le_of_ble_eq_true rfl⟩) ⟨pcW_blind, va_recv hK hPc (ci := 0) (q0 := 0) rfl rfl, (pcW_pre hPc hkn hDc hst hS hFc)⟩ rfl rfl hl.1 rfl (lv_room (Nat.le_of_ble_eq_true rfl)) dX4_work_148 ⟨Nat.le_of_ble_eq_true rfl, Nat.le_of_ble_eq_true rfl⟩) hS (fun q _ h => hFc q h) hFc (fun r_29 u t H1 locs ht hvm hw_30 hB hz1 hk1 hS => ?_)
        obtain ⟨u_31, rfl⟩ : ∃ z, z = u := ⟨_, rfl⟩
        obtain ⟨hP1, hD1⟩ := hB
        rw [ht] at hP1
        try dsimp only at hw_30
        obtain ⟨hP, hD⟩ := va_join (wr := [(po, .inl (E.2.1 0, 10, .inl fo_)), (se, .inr (8, [.ref wi, .ref po])), (wi, .inl (E.2.1 0, 288, .inl fw)), (pa, .inl (E.2.1 0, 4, .inl fp)), (ru, .inr (7, [.ref s1, .ref s2, .ref s3, .ref s4, .int sz_])), (s1, .inl (E.2.1 0, 12, .inl r1)), (s2, .inl (E.2.1 1, 12, .inl r2)), (s3, .inl (E.2.1 0, 12, .inl r3)), (s4, .inl (E.2.1 0, 12, .inl r4)), (co, .inr (1, [.ref bx, .int bc, .int lc, .int mf, .int li])), (bx, .inl (E.2.1 0, 72, .inl fx)), (h0, .inr (4, [.ref wy, .int wl_, .int (nI u_23), .int u_24, .int hp, .int fd, .int pe, .int u_25, .int u_26, .int tu, .int wa, .int u_27, .int wt, .int u_16, .int u_17, .int dr])), (wy, .inl (E.2.1 0, 8, .inl fy)), (sp, .inl (E.2.1 0, 25, .inl fs_))]) (w1 := [(bo_, .inr (0, [.ref sp, .ref pa, .int u_31, .ref ru, .ref co, .ref tr]))]) hP hD [13] [0, 1, 2, 3, 4, 5, 6, 7, 8, 9, 10, 11, 12, 14] rfl rfl (by decide) (by decide) hk1 hFc hP1 hD1
        generalize H1 = H at hP hS ⊢
        have hP : va_P E.1 vwCl [(po, .inl (E.2.1 0, 10, .inl fo_)), (se, .inr (8, [.ref wi, .ref po])), (wi, .inl (E.2.1 0, 288, .inl fw)), (pa, .inl (E.2.1 0, 4, .inl fp)), (ru, .inr (7, [.ref s1, .ref s2, .ref s3, .ref s4, .int sz_])), (s1, .inl (E.2.1 0, 12, .inl r1)), (s2, .inl (E.2.1 1, 12, .inl r2)), (s3, .inl (E.2.1 0, 12, .inl r3)), (s4, .inl (E.2.1 0, 12, .inl r4)), (co, .inr (1, [.ref bx, .int bc, .int lc, .int mf, .int li])), (bx, .inl (E.2.1 0, 72, .inl fx)), (h0, .inr (4, [.ref wy, .int wl_, .int (nI u_23), .int u_24, .int hp, .int fd, .int pe, .int u_25, .int u_26, .int tu, .int wa, .int u_27, .int wt, .int u_16, .int u_17, .int dr])), (wy, .inl (E.2.1 0, 8, .inl fy)), (sp, .inl (E.2.1 0, 25, .inl fs_)), (bo_, .inr (0, [.ref sp, .ref pa, .int u_31, .ref ru, .ref co, .ref tr]))] H := hP
        have hD : va_D A [(po, .inl (E.2.1 0, 10, .inl fo_)), (se, .inr (8, [.ref wi, .ref po])), (wi, .inl (E.2.1 0, 288, .inl fw)), (pa, .inl (E.2.1 0, 4, .inl fp)), (ru, .inr (7, [.ref s1, .ref s2, .ref s3, .ref s4, .int sz_])), (s1, .inl (E.2.1 0, 12, .inl r1)), (s2, .inl (E.2.1 1, 12, .inl r2)), (s3, .inl (E.2.1 0, 12, .inl r3)), (s4, .inl (E.2.1 0, 12, .inl r4)), (co, .inr (1, [.ref bx, .int bc, .int lc, .int mf, .int li])), (bx, .inl (E.2.1 0, 72, .inl fx)), (h0, .inr (4, [.ref wy, .int wl_, .int (nI u_23), .int u_24, .int hp, .int fd, .int pe, .int u_25, .int u_26, .int tu, .int wa, .int u_27, .int wt, .int u_16, .int u_17, .int dr])), (wy, .inl (E.2.1 0, 8, .inl fy)), (sp, .inl (E.2.1 0, 25, .inl fs_)), (bo_, .inr (0, [.ref sp, .ref pa, .int u_31, .ref ru, .ref co, .ref tr]))] := hD
        refine lv_if_eq (tgt := 158) hx hb dX4_work_151 (by decide) (fun c_32 => ?_) (fun c_32 => ?_)
        · refine lv_iconst (v := 1) hx hb dX4_work_158 (by decide) ?_
          refine lv_iadd hx hb dX4_work_159 ?_
          refine lv_topi (fun x_33 ex_33 => ?_)
          refine va_put (D := E.1) (ci := 4) (v := .int x_33) (ty := .int) (C := RX4) (T := TX4) (N := 16) hx hb hts inX4 tyX4 tyX4_ok nmX4 hown hK hP hD hS 11 rfl rfl 15 (by decide) fl59 (fun _ h9 => h9) rfl (by decide +kernel) rfl rfl (Nat.le_of_ble_eq_true rfl) dX4_work_160 (fun H locs hP hD hS => ?_)
          have hP : va_P E.1 vwCl [(po, .inl (E.2.1 0, 10, .inl fo_)), (se, .inr (8, [.ref wi, .ref po])), (wi, .inl (E.2.1 0, 288, .inl fw)), (pa, .inl (E.2.1 0, 4, .inl fp)), (ru, .inr (7, [.ref s1, .ref s2, .ref s3, .ref s4, .int sz_])), (s1, .inl (E.2.1 0, 12, .inl r1)), (s2, .inl (E.2.1 1, 12, .inl r2)), (s3, .inl (E.2.1 0, 12, .inl r3)), (s4, .inl (E.2.1 0, 12, .inl r4)), (co, .inr (1, [.ref bx, .int bc, .int lc, .int mf, .int li])), (bx, .inl (E.2.1 0, 72, .inl fx)), (h0, .inr (4, [.ref wy, .int wl_, .int (nI u_23), .int u_24, .int hp, .int fd, .int pe, .int u_25, .int u_26, .int tu, .int wa, .int u_27, .int wt, .int u_16, .int u_17, .int x_33])), (wy, .inl (E.2.1 0, 8, .inl fy)), (sp, .inl (E.2.1 0, 25, .inl fs_)), (bo_, .inr (0, [.ref sp, .ref pa, .int u_31, .ref ru, .ref co, .ref tr]))] H := hP
          have hD : va_D A [(po, .inl (E.2.1 0, 10, .inl fo_)), (se, .inr (8, [.ref wi, .ref po])), (wi, .inl (E.2.1 0, 288, .inl fw)), (pa, .inl (E.2.1 0, 4, .inl fp)), (ru, .inr (7, [.ref s1, .ref s2, .ref s3, .ref s4, .int sz_])), (s1, .inl (E.2.1 0, 12, .inl r1)), (s2, .inl (E.2.1 1, 12, .inl r2)), (s3, .inl (E.2.1 0, 12, .inl r3)), (s4, .inl (E.2.1 0, 12, .inl r4)), (co, .inr (1, [.ref bx, .int bc, .int lc, .int mf, .int li])), (bx, .inl (E.2.1 0, 72, .inl fx)), (h0, .inr (4, [.ref wy, .int wl_, .int (nI u_23), .int u_24, .int hp, .int fd, .int pe, .int u_25, .int u_26, .int tu, .int wa, .int u_27, .int wt, .int u_16, .int u_17, .int x_33])), (wy, .inl (E.2.1 0, 8, .inl fy)), (sp, .inl (E.2.1 0, 25, .inl fs_)), (bo_, .inr (0, [.ref sp, .ref pa, .int u_31, .ref ru, .ref co, .ref tr]))] := hD
          refine lv_aload_n hx hb dX4_work_163 rfl (lv_at hl 5 rfl) ?_
          have hPc := hP.sub (ws' := [(bo_, .inr (0, [.ref sp, .ref pa, .int u_31, .ref ru, .ref co, .ref tr])), (pa, .inl (E.2.1 0, 4, .inl fp))]) [14, 3] rfl
          have hDc := hD.sub (ws' := [(bo_, .inr (0, [.ref sp, .ref pa, .int u_31, .ref ru, .ref co, .ref tr])), (pa, .inl (E.2.1 0, 4, .inl fp))]) [14, 3] (by decide) rfl
          have hFc := va_free (wc := [(bo_, .inr (0, [.ref sp, .ref pa, .int u_31, .ref ru, .ref co, .ref tr])), (pa, .inl (E.2.1 0, 4, .inl fp))]) hD hS hA [14, 3] rfl
          refine va_callv (va_runV (As := []) (rest := []) ⟨hx, hb, hml, hown, hts⟩ (c_X0_wear l E bo_ sp pa ru co tr u_31 fp H.size ) (cwV 0 hts gX4_work_X0_wear rfl rfl rfl hdV_X0_wear ⟨Nat.le_of_ble_eq_true rfl, Nat.le_of_ble_eq_true rfl⟩) ⟨pcW_blind, va_recv hK hPc (ci := 0) (q0 := 0) rfl rfl, (pcW_pre hPc hkn hDc hst hS hFc)⟩ rfl rfl hl.1 rfl (lv_room (Nat.le_of_ble_eq_true rfl)) dX4_work_164 ⟨Nat.le_of_ble_eq_true rfl, Nat.le_of_ble_eq_true rfl⟩) hS (fun q _ h => hFc q h) hFc (fun u t H1 locs ht hvm hw_35 hB hz1 hk1 hS => ?_)
          obtain ⟨u_36, rfl⟩ : ∃ z, z = u := ⟨_, rfl⟩
          obtain ⟨hP1, hD1⟩ := hB
          rw [ht] at hP1
          try dsimp only at hw_35
          obtain ⟨hP, hD⟩ := va_join (wr := [(po, .inl (E.2.1 0, 10, .inl fo_)), (se, .inr (8, [.ref wi, .ref po])), (wi, .inl (E.2.1 0, 288, .inl fw)), (ru, .inr (7, [.ref s1, .ref s2, .ref s3, .ref s4, .int sz_])), (s1, .inl (E.2.1 0, 12, .inl r1)), (s2, .inl (E.2.1 1, 12, .inl r2)), (s3, .inl (E.2.1 0, 12, .inl r3)), (s4, .inl (E.2.1 0, 12, .inl r4)), (co, .inr (1, [.ref bx, .int bc, .int lc, .int mf, .int li])), (bx, .inl (E.2.1 0, 72, .inl fx)), (h0, .inr (4, [.ref wy, .int wl_, .int (nI u_23), .int u_24, .int hp, .int fd, .int pe, .int u_25, .int u_26, .int tu, .int wa, .int u_27, .int wt, .int u_16, .int u_17, .int x_33])), (wy, .inl (E.2.1 0, 8, .inl fy)), (sp, .inl (E.2.1 0, 25, .inl fs_))]) (w1 := [(bo_, .inr (0, [.ref sp, .ref pa, .int u_31, .ref ru, .ref co, .ref tr])), (pa, .inl (E.2.1 0, 4, .inl u_36))]) hP hD [14, 3] [0, 1, 2, 4, 5, 6, 7, 8, 9, 10, 11, 12, 13] rfl rfl (by decide) (by decide) hk1 hFc hP1 hD1
          generalize H1 = H at hP hS ⊢
          have hP : va_P E.1 vwCl [(po, .inl (E.2.1 0, 10, .inl fo_)), (se, .inr (8, [.ref wi, .ref po])), (wi, .inl (E.2.1 0, 288, .inl fw)), (ru, .inr (7, [.ref s1, .ref s2, .ref s3, .ref s4, .int sz_])), (s1, .inl (E.2.1 0, 12, .inl r1)), (s2, .inl (E.2.1 1, 12, .inl r2)), (s3, .inl (E.2.1 0, 12, .inl r3)), (s4, .inl (E.2.1 0, 12, .inl r4)), (co, .inr (1, [.ref bx, .int bc, .int lc, .int mf, .int li])), (bx, .inl (E.2.1 0, 72, .inl fx)), (h0, .inr (4, [.ref wy, .int wl_, .int (nI u_23), .int u_24, .int hp, .int fd, .int pe, .int u_25, .int u_26, .int tu, .int wa, .int u_27, .int wt, .int u_16, .int u_17, .int x_33])), (wy, .inl (E.2.1 0, 8, .inl fy)), (sp, .inl (E.2.1 0, 25, .inl fs_)), (bo_, .inr (0, [.ref sp, .ref pa, .int u_31, .ref ru, .ref co, .ref tr])), (pa, .inl (E.2.1 0, 4, .inl u_36))] H := hP
          have hD : va_D A [(po, .inl (E.2.1 0, 10, .inl fo_)), (se, .inr (8, [.ref wi, .ref po])), (wi, .inl (E.2.1 0, 288, .inl fw)), (ru, .inr (7, [.ref s1, .ref s2, .ref s3, .ref s4, .int sz_])), (s1, .inl (E.2.1 0, 12, .inl r1)), (s2, .inl (E.2.1 1, 12, .inl r2)), (s3, .inl (E.2.1 0, 12, .inl r3)), (s4, .inl (E.2.1 0, 12, .inl r4)), (co, .inr (1, [.ref bx, .int bc, .int lc, .int mf, .int li])), (bx, .inl (E.2.1 0, 72, .inl fx)), (h0, .inr (4, [.ref wy, .int wl_, .int (nI u_23), .int u_24, .int hp, .int fd, .int pe, .int u_25, .int u_26, .int tu, .int wa, .int u_27, .int wt, .int u_16, .int u_17, .int x_33])), (wy, .inl (E.2.1 0, 8, .inl fy)), (sp, .inl (E.2.1 0, 25, .inl fs_)), (bo_, .inr (0, [.ref sp, .ref pa, .int u_31, .ref ru, .ref co, .ref tr])), (pa, .inl (E.2.1 0, 4, .inl u_36))] := hD
          refine lv_aload_n hx hb dX4_work_167 rfl (lv_at hl 4 rfl) ?_
          refine lv_dup hx hb dX4_work_168 rfl ?_
          refine va_get (D := E.1) (ci := 4) (v := .int wa) (C := RX4) (T := TX4) (N := 16) hx hb hts inX4 hown hK hP 10 rfl rfl 10 (by decide) fl44 (fun _ h9 => h9) rfl dX4_work_169 ?_
          refine lv_iconst (v := 1) hx hb dX4_work_172 (by decide) ?_
          refine lv_iadd hx hb dX4_work_173 ?_
          refine lv_topi (fun x_37 ex_37 => ?_)
          refine va_put (D := E.1) (ci := 4) (v := .int x_37) (ty := .int) (C := RX4) (T := TX4) (N := 16) hx hb hts inX4 tyX4 tyX4_ok nmX4 hown hK hP hD hS 10 rfl rfl 10 (by decide) fl44 (fun _ h9 => h9) rfl (by decide +kernel) rfl rfl (Nat.le_of_ble_eq_true rfl) dX4_work_174 (fun H locs hP hD hS => ?_)
          have hP : va_P E.1 vwCl [(po, .inl (E.2.1 0, 10, .inl fo_)), (se, .inr (8, [.ref wi, .ref po])), (wi, .inl (E.2.1 0, 288, .inl fw)), (ru, .inr (7, [.ref s1, .ref s2, .ref s3, .ref s4, .int sz_])), (s1, .inl (E.2.1 0, 12, .inl r1)), (s2, .inl (E.2.1 1, 12, .inl r2)), (s3, .inl (E.2.1 0, 12, .inl r3)), (s4, .inl (E.2.1 0, 12, .inl r4)), (co, .inr (1, [.ref bx, .int bc, .int lc, .int mf, .int li])), (bx, .inl (E.2.1 0, 72, .inl fx)), (h0, .inr (4, [.ref wy, .int wl_, .int (nI u_23), .int u_24, .int hp, .int fd, .int pe, .int u_25, .int u_26, .int tu, .int x_37, .int u_27, .int wt, .int u_16, .int u_17, .int x_33])), (wy, .inl (E.2.1 0, 8, .inl fy)), (sp, .inl (E.2.1 0, 25, .inl fs_)), (bo_, .inr (0, [.ref sp, .ref pa, .int u_31, .ref ru, .ref co, .ref tr])), (pa, .inl (E.2.1 0, 4, .inl u_36))] H := hP
          have hD : va_D A [(po, .inl (E.2.1 0, 10, .inl fo_)), (se, .inr (8, [.ref wi, .ref po])), (wi, .inl (E.2.1 0, 288, .inl fw)), (ru, .inr (7, [.ref s1, .ref s2, .ref s3, .ref s4, .int sz_])), (s1, .inl (E.2.1 0, 12, .inl r1)), (s2, .inl (E.2.1 1, 12, .inl r2)), (s3, .inl (E.2.1 0, 12, .inl r3)), (s4, .inl (E.2.1 0, 12, .inl r4)), (co, .inr (1, [.ref bx, .int bc, .int lc, .int mf, .int li])), (bx, .inl (E.2.1 0, 72, .inl fx)), (h0, .inr (4, [.ref wy, .int wl_, .int (nI u_23), .int u_24, .int hp, .int fd, .int pe, .int u_25, .int u_26, .int tu, .int x_37, .int u_27, .int wt, .int u_16, .int u_17, .int x_33])), (wy, .inl (E.2.1 0, 8, .inl fy)), (sp, .inl (E.2.1 0, 25, .inl fs_)), (bo_, .inr (0, [.ref sp, .ref pa, .int u_31, .ref ru, .ref co, .ref tr])), (pa, .inl (E.2.1 0, 4, .inl u_36))] := hD
          refine lv_iconst (v := 1) hx hb dX4_work_177 (by decide) ?_
          have hP9 := hP.sub (ws' := [(h0, .inr (4, [.ref wy, .int wl_, .int (nI u_23), .int u_24, .int hp, .int fd, .int pe, .int u_25, .int u_26, .int tu, .int x_37, .int u_27, .int wt, .int u_16, .int u_17, .int x_33])), (wy, .inl (E.2.1 0, 8, .inl fy)), (bo_, .inr (0, [.ref sp, .ref pa, .int u_31, .ref ru, .ref co, .ref tr])), (sp, .inl (E.2.1 0, 25, .inl fs_)), (pa, .inl (E.2.1 0, 4, .inl u_36)), (ru, .inr (7, [.ref s1, .ref s2, .ref s3, .ref s4, .int sz_])), (s1, .inl (E.2.1 0, 12, .inl r1)), (s2, .inl (E.2.1 1, 12, .inl r2)), (s3, .inl (E.2.1 0, 12, .inl r3)), (s4, .inl (E.2.1 0, 12, .inl r4)), (co, .inr (1, [.ref bx, .int bc, .int lc, .int mf, .int li])), (bx, .inl (E.2.1 0, 72, .inl fx)), (se, .inr (8, [.ref wi, .ref po])), (wi, .inl (E.2.1 0, 288, .inl fw)), (po, .inl (E.2.1 0, 10, .inl fo_))]) [10, 11, 13, 12, 14, 3, 4, 5, 6, 7, 8, 9, 1, 2, 0] rfl
          have hD9 := hD.sub (ws' := [(h0, .inr (4, [.ref wy, .int wl_, .int (nI u_23), .int u_24, .int hp, .int fd, .int pe, .int u_25, .int u_26, .int tu, .int x_37, .int u_27, .int wt, .int u_16, .int u_17, .int x_33])), (wy, .inl (E.2.1 0, 8, .inl fy)), (bo_, .inr (0, [.ref sp, .ref pa, .int u_31, .ref ru, .ref co, .ref tr])), (sp, .inl (E.2.1 0, 25, .inl fs_)), (pa, .inl (E.2.1 0, 4, .inl u_36)), (ru, .inr (7, [.ref s1, .ref s2, .ref s3, .ref s4, .int sz_])), (s1, .inl (E.2.1 0, 12, .inl r1)), (s2, .inl (E.2.1 1, 12, .inl r2)), (s3, .inl (E.2.1 0, 12, .inl r3)), (s4, .inl (E.2.1 0, 12, .inl r4)), (co, .inr (1, [.ref bx, .int bc, .int lc, .int mf, .int li])), (bx, .inl (E.2.1 0, 72, .inl fx)), (se, .inr (8, [.ref wi, .ref po])), (wi, .inl (E.2.1 0, 288, .inl fw)), (po, .inl (E.2.1 0, 10, .inl fo_))]) [10, 11, 13, 12, 14, 3, 4, 5, 6, 7, 8, 9, 1, 2, 0] (by decide) rfl
          exact W.zret (v := 1) hx hb hr (by decide) (fun t ht hW => ⟨⟨1, (u_23, wl_, u_24, u_25, u_26, tu, x_37, u_27, wt, u_16, u_17, x_33, fy, u_31, u_36), rfl, Or.inr rfl, hf_28, by rw [ht]; exact hP9, hD9⟩, hS.F ht⟩) hS.2.2 dX4_work_178
        · refine lv_iconst (v := 0) hx hb dX4_work_154 (by decide) ?_
          refine lv_goto (tgt := 159) hx hb dX4_work_155 (by decide) ?_
          refine lv_iadd hx hb dX4_work_159 ?_
          refine lv_topi (fun x_38 ex_38 => ?_)
          refine va_put (D := E.1) (ci := 4) (v := .int x_38) (ty := .int) (C := RX4) (T := TX4) (N := 16) hx hb hts inX4 tyX4 tyX4_ok nmX4 hown hK hP hD hS 11 rfl rfl 15 (by decide) fl59 (fun _ h9 => h9) rfl (by decide +kernel) rfl rfl (Nat.le_of_ble_eq_true rfl) dX4_work_160 (fun H locs hP hD hS => ?_)
          have hP : va_P E.1 vwCl [(po, .inl (E.2.1 0, 10, .inl fo_)), (se, .inr (8, [.ref wi, .ref po])), (wi, .inl (E.2.1 0, 288, .inl fw)), (pa, .inl (E.2.1 0, 4, .inl fp)), (ru, .inr (7, [.ref s1, .ref s2, .ref s3, .ref s4, .int sz_])), (s1, .inl (E.2.1 0, 12, .inl r1)), (s2, .inl (E.2.1 1, 12, .inl r2)), (s3, .inl (E.2.1 0, 12, .inl r3)), (s4, .inl (E.2.1 0, 12, .inl r4)), (co, .inr (1, [.ref bx, .int bc, .int lc, .int mf, .int li])), (bx, .inl (E.2.1 0, 72, .inl fx)), (h0, .inr (4, [.ref wy, .int wl_, .int (nI u_23), .int u_24, .int hp, .int fd, .int pe, .int u_25, .int u_26, .int tu, .int wa, .int u_27, .int wt, .int u_16, .int u_17, .int x_38])), (wy, .inl (E.2.1 0, 8, .inl fy)), (sp, .inl (E.2.1 0, 25, .inl fs_)), (bo_, .inr (0, [.ref sp, .ref pa, .int u_31, .ref ru, .ref co, .ref tr]))] H := hP
          have hD : va_D A [(po, .inl (E.2.1 0, 10, .inl fo_)), (se, .inr (8, [.ref wi, .ref po])), (wi, .inl (E.2.1 0, 288, .inl fw)), (pa, .inl (E.2.1 0, 4, .inl fp)), (ru, .inr (7, [.ref s1, .ref s2, .ref s3, .ref s4, .int sz_])), (s1, .inl (E.2.1 0, 12, .inl r1)), (s2, .inl (E.2.1 1, 12, .inl r2)), (s3, .inl (E.2.1 0, 12, .inl r3)), (s4, .inl (E.2.1 0, 12, .inl r4)), (co, .inr (1, [.ref bx, .int bc, .int lc, .int mf, .int li])), (bx, .inl (E.2.1 0, 72, .inl fx)), (h0, .inr (4, [.ref wy, .int wl_, .int (nI u_23), .int u_24, .int hp, .int fd, .int pe, .int u_25, .int u_26, .int tu, .int wa, .int u_27, .int wt, .int u_16, .int u_17, .int x_38])), (wy, .inl (E.2.1 0, 8, .inl fy)), (sp, .inl (E.2.1 0, 25, .inl fs_)), (bo_, .inr (0, [.ref sp, .ref pa, .int u_31, .ref ru, .ref co, .ref tr]))] := hD
          refine lv_aload_n hx hb dX4_work_163 rfl (lv_at hl 5 rfl) ?_
          have hPc := hP.sub (ws' := [(bo_, .inr (0, [.ref sp, .ref pa, .int u_31, .ref ru, .ref co, .ref tr])), (pa, .inl (E.2.1 0, 4, .inl fp))]) [14, 3] rfl
          have hDc := hD.sub (ws' := [(bo_, .inr (0, [.ref sp, .ref pa, .int u_31, .ref ru, .ref co, .ref tr])), (pa, .inl (E.2.1 0, 4, .inl fp))]) [14, 3] (by decide) rfl
          have hFc := va_free (wc := [(bo_, .inr (0, [.ref sp, .ref pa, .int u_31, .ref ru, .ref co, .ref tr])), (pa, .inl (E.2.1 0, 4, .inl fp))]) hD hS hA [14, 3] rfl
          refine va_callv (va_runV (As := []) (rest := []) ⟨hx, hb, hml, hown, hts⟩ (c_X0_wear l E bo_ sp pa ru co tr u_31 fp H.size ) (cwV 0 hts gX4_work_X0_wear rfl rfl rfl hdV_X0_wear ⟨Nat.le_of_ble_eq_true rfl, Nat.le_of_ble_eq_true rfl⟩) ⟨pcW_blind, va_recv hK hPc (ci := 0) (q0 := 0) rfl rfl, (pcW_pre hPc hkn hDc hst hS hFc)⟩ rfl rfl hl.1 rfl (lv_room (Nat.le_of_ble_eq_true rfl)) dX4_work_164 ⟨Nat.le_of_ble_eq_true rfl, Nat.le_of_ble_eq_true rfl⟩) hS (fun q _ h => hFc q h) hFc (fun u t H1 locs ht hvm hw_40 hB hz1 hk1 hS => ?_)
          obtain ⟨u_41, rfl⟩ : ∃ z, z = u := ⟨_, rfl⟩
          obtain ⟨hP1, hD1⟩ := hB
          rw [ht] at hP1
          try dsimp only at hw_40
          obtain ⟨hP, hD⟩ := va_join (wr := [(po, .inl (E.2.1 0, 10, .inl fo_)), (se, .inr (8, [.ref wi, .ref po])), (wi, .inl (E.2.1 0, 288, .inl fw)), (ru, .inr (7, [.ref s1, .ref s2, .ref s3, .ref s4, .int sz_])), (s1, .inl (E.2.1 0, 12, .inl r1)), (s2, .inl (E.2.1 1, 12, .inl r2)), (s3, .inl (E.2.1 0, 12, .inl r3)), (s4, .inl (E.2.1 0, 12, .inl r4)), (co, .inr (1, [.ref bx, .int bc, .int lc, .int mf, .int li])), (bx, .inl (E.2.1 0, 72, .inl fx)), (h0, .inr (4, [.ref wy, .int wl_, .int (nI u_23), .int u_24, .int hp, .int fd, .int pe, .int u_25, .int u_26, .int tu, .int wa, .int u_27, .int wt, .int u_16, .int u_17, .int x_38])), (wy, .inl (E.2.1 0, 8, .inl fy)), (sp, .inl (E.2.1 0, 25, .inl fs_))]) (w1 := [(bo_, .inr (0, [.ref sp, .ref pa, .int u_31, .ref ru, .ref co, .ref tr])), (pa, .inl (E.2.1 0, 4, .inl u_41))]) hP hD [14, 3] [0, 1, 2, 4, 5, 6, 7, 8, 9, 10, 11, 12, 13] rfl rfl (by decide) (by decide) hk1 hFc hP1 hD1
          generalize H1 = H at hP hS ⊢
          have hP : va_P E.1 vwCl [(po, .inl (E.2.1 0, 10, .inl fo_)), (se, .inr (8, [.ref wi, .ref po])), (wi, .inl (E.2.1 0, 288, .inl fw)), (ru, .inr (7, [.ref s1, .ref s2, .ref s3, .ref s4, .int sz_])), (s1, .inl (E.2.1 0, 12, .inl r1)), (s2, .inl (E.2.1 1, 12, .inl r2)), (s3, .inl (E.2.1 0, 12, .inl r3)), (s4, .inl (E.2.1 0, 12, .inl r4)), (co, .inr (1, [.ref bx, .int bc, .int lc, .int mf, .int li])), (bx, .inl (E.2.1 0, 72, .inl fx)), (h0, .inr (4, [.ref wy, .int wl_, .int (nI u_23), .int u_24, .int hp, .int fd, .int pe, .int u_25, .int u_26, .int tu, .int wa, .int u_27, .int wt, .int u_16, .int u_17, .int x_38])), (wy, .inl (E.2.1 0, 8, .inl fy)), (sp, .inl (E.2.1 0, 25, .inl fs_)), (bo_, .inr (0, [.ref sp, .ref pa, .int u_31, .ref ru, .ref co, .ref tr])), (pa, .inl (E.2.1 0, 4, .inl u_41))] H := hP
          have hD : va_D A [(po, .inl (E.2.1 0, 10, .inl fo_)), (se, .inr (8, [.ref wi, .ref po])), (wi, .inl (E.2.1 0, 288, .inl fw)), (ru, .inr (7, [.ref s1, .ref s2, .ref s3, .ref s4, .int sz_])), (s1, .inl (E.2.1 0, 12, .inl r1)), (s2, .inl (E.2.1 1, 12, .inl r2)), (s3, .inl (E.2.1 0, 12, .inl r3)), (s4, .inl (E.2.1 0, 12, .inl r4)), (co, .inr (1, [.ref bx, .int bc, .int lc, .int mf, .int li])), (bx, .inl (E.2.1 0, 72, .inl fx)), (h0, .inr (4, [.ref wy, .int wl_, .int (nI u_23), .int u_24, .int hp, .int fd, .int pe, .int u_25, .int u_26, .int tu, .int wa, .int u_27, .int wt, .int u_16, .int u_17, .int x_38])), (wy, .inl (E.2.1 0, 8, .inl fy)), (sp, .inl (E.2.1 0, 25, .inl fs_)), (bo_, .inr (0, [.ref sp, .ref pa, .int u_31, .ref ru, .ref co, .ref tr])), (pa, .inl (E.2.1 0, 4, .inl u_41))] := hD
          refine lv_aload_n hx hb dX4_work_167 rfl (lv_at hl 4 rfl) ?_
          refine lv_dup hx hb dX4_work_168 rfl ?_
          refine va_get (D := E.1) (ci := 4) (v := .int wa) (C := RX4) (T := TX4) (N := 16) hx hb hts inX4 hown hK hP 10 rfl rfl 10 (by decide) fl44 (fun _ h9 => h9) rfl dX4_work_169 ?_
          refine lv_iconst (v := 1) hx hb dX4_work_172 (by decide) ?_
          refine lv_iadd hx hb dX4_work_173 ?_
          refine lv_topi (fun x_42 ex_42 => ?_)
          refine va_put (D := E.1) (ci := 4) (v := .int x_42) (ty := .int) (C := RX4) (T := TX4) (N := 16) hx hb hts inX4 tyX4 tyX4_ok nmX4 hown hK hP hD hS 10 rfl rfl 10 (by decide) fl44 (fun _ h9 => h9) rfl (by decide +kernel) rfl rfl (Nat.le_of_ble_eq_true rfl) dX4_work_174 (fun H locs hP hD hS => ?_)
          have hP : va_P E.1 vwCl [(po, .inl (E.2.1 0, 10, .inl fo_)), (se, .inr (8, [.ref wi, .ref po])), (wi, .inl (E.2.1 0, 288, .inl fw)), (ru, .inr (7, [.ref s1, .ref s2, .ref s3, .ref s4, .int sz_])), (s1, .inl (E.2.1 0, 12, .inl r1)), (s2, .inl (E.2.1 1, 12, .inl r2)), (s3, .inl (E.2.1 0, 12, .inl r3)), (s4, .inl (E.2.1 0, 12, .inl r4)), (co, .inr (1, [.ref bx, .int bc, .int lc, .int mf, .int li])), (bx, .inl (E.2.1 0, 72, .inl fx)), (h0, .inr (4, [.ref wy, .int wl_, .int (nI u_23), .int u_24, .int hp, .int fd, .int pe, .int u_25, .int u_26, .int tu, .int x_42, .int u_27, .int wt, .int u_16, .int u_17, .int x_38])), (wy, .inl (E.2.1 0, 8, .inl fy)), (sp, .inl (E.2.1 0, 25, .inl fs_)), (bo_, .inr (0, [.ref sp, .ref pa, .int u_31, .ref ru, .ref co, .ref tr])), (pa, .inl (E.2.1 0, 4, .inl u_41))] H := hP
          have hD : va_D A [(po, .inl (E.2.1 0, 10, .inl fo_)), (se, .inr (8, [.ref wi, .ref po])), (wi, .inl (E.2.1 0, 288, .inl fw)), (ru, .inr (7, [.ref s1, .ref s2, .ref s3, .ref s4, .int sz_])), (s1, .inl (E.2.1 0, 12, .inl r1)), (s2, .inl (E.2.1 1, 12, .inl r2)), (s3, .inl (E.2.1 0, 12, .inl r3)), (s4, .inl (E.2.1 0, 12, .inl r4)), (co, .inr (1, [.ref bx, .int bc, .int lc, .int mf, .int li])), (bx, .inl (E.2.1 0, 72, .inl fx)), (h0, .inr (4, [.ref wy, .int wl_, .int (nI u_23), .int u_24, .int hp, .int fd, .int pe, .int u_25, .int u_26, .int tu, .int x_42, .int u_27, .int wt, .int u_16, .int u_17, .int x_38])), (wy, .inl (E.2.1 0, 8, .inl fy)), (sp, .inl (E.2.1 0, 25, .inl fs_)), (bo_, .inr (0, [.ref sp, .ref pa, .int u_31, .ref ru, .ref co, .ref tr])), (pa, .inl (E.2.1 0, 4, .inl u_41))] := hD
          refine lv_iconst (v := 1) hx hb dX4_work_177 (by decide) ?_
          have hP9 := hP.sub (ws' := [(h0, .inr (4, [.ref wy, .int wl_, .int (nI u_23), .int u_24, .int hp, .int fd, .int pe, .int u_25, .int u_26, .int tu, .int x_42, .int u_27, .int wt, .int u_16, .int u_17, .int x_38])), (wy, .inl (E.2.1 0, 8, .inl fy)), (bo_, .inr (0, [.ref sp, .ref pa, .int u_31, .ref ru, .ref co, .ref tr])), (sp, .inl (E.2.1 0, 25, .inl fs_)), (pa, .inl (E.2.1 0, 4, .inl u_41)), (ru, .inr (7, [.ref s1, .ref s2, .ref s3, .ref s4, .int sz_])), (s1, .inl (E.2.1 0, 12, .inl r1)), (s2, .inl (E.2.1 1, 12, .inl r2)), (s3, .inl (E.2.1 0, 12, .inl r3)), (s4, .inl (E.2.1 0, 12, .inl r4)), (co, .inr (1, [.ref bx, .int bc, .int lc, .int mf, .int li])), (bx, .inl (E.2.1 0, 72, .inl fx)), (se, .inr (8, [.ref wi, .ref po])), (wi, .inl (E.2.1 0, 288, .inl fw)), (po, .inl (E.2.1 0, 10, .inl fo_))]) [10, 11, 13, 12, 14, 3, 4, 5, 6, 7, 8, 9, 1, 2, 0] rfl
          have hD9 := hD.sub (ws' := [(h0, .inr (4, [.ref wy, .int wl_, .int (nI u_23), .int u_24, .int hp, .int fd, .int pe, .int u_25, .int u_26, .int tu, .int x_42, .int u_27, .int wt, .int u_16, .int u_17, .int x_38])), (wy, .inl (E.2.1 0, 8, .inl fy)), (bo_, .inr (0, [.ref sp, .ref pa, .int u_31, .ref ru, .ref co, .ref tr])), (sp, .inl (E.2.1 0, 25, .inl fs_)), (pa, .inl (E.2.1 0, 4, .inl u_41)), (ru, .inr (7, [.ref s1, .ref s2, .ref s3, .ref s4, .int sz_])), (s1, .inl (E.2.1 0, 12, .inl r1)), (s2, .inl (E.2.1 1, 12, .inl r2)), (s3, .inl (E.2.1 0, 12, .inl r3)), (s4, .inl (E.2.1 0, 12, .inl r4)), (co, .inr (1, [.ref bx, .int bc, .int lc, .int mf, .int li])), (bx, .inl (E.2.1 0, 72, .inl fx)), (se, .inr (8, [.ref wi, .ref po])), (wi, .inl (E.2.1 0, 288, .inl fw)), (po, .inl (E.2.1 0, 10, .inl fo_))]) [10, 11, 13, 12, 14, 3, 4, 5, 6, 7, 8, 9, 1, 2, 0] (by decide) rfl
          exact W.zret (v := 1) hx hb hr (by decide) (fun t ht hW => ⟨⟨1, (u_23, wl_, u_24, u_25, u_26, tu, x_42, u_27, wt, u_16, u_17, x_38, fy, u_31, u_41), rfl, Or.inr rfl, hf_28, by rw [ht]; exact hP9, hD9⟩, hS.F ht⟩) hS.2.2 dX4_work_178
      · refine lv_aload_n hx hb dX4_work_113 rfl (lv_at hl 4 rfl) ?_
        refine lv_dup hx hb dX4_work_114 rfl ?_
        refine va_get (D := E.1) (ci := 4) (v := .int wt) (C := RX4) (T := TX4) (N := 16) hx hb hts inX4 hown hK hP 14 rfl rfl 12 (by decide) fl50 (fun _ h9 => h9) rfl dX4_work_115 ?_
        refine lv_iconst (v := 1) hx hb dX4_work_118 (by decide) ?_
        refine lv_iadd hx hb dX4_work_119 ?_
        refine lv_topi (fun x_43 ex_43 => ?_)
        refine va_put (D := E.1) (ci := 4) (v := .int x_43) (ty := .int) (C := RX4) (T := TX4) (N := 16) hx hb hts inX4 tyX4 tyX4_ok nmX4 hown hK hP hD hS 14 rfl rfl 12 (by decide) fl50 (fun _ h9 => h9) rfl (by decide +kernel) rfl rfl (Nat.le_of_ble_eq_true rfl) dX4_work_120 (fun H locs hP hD hS => ?_)
        have hP : va_P E.1 vwCl [(wy, .inl (E.2.1 0, 8, .inl fy)), (sp, .inl (E.2.1 0, 25, .inl fs_)), (po, .inl (E.2.1 0, 10, .inl fo_)), (se, .inr (8, [.ref wi, .ref po])), (wi, .inl (E.2.1 0, 288, .inl fw)), (bo_, .inr (0, [.ref sp, .ref pa, .int lt, .ref ru, .ref co, .ref tr])), (pa, .inl (E.2.1 0, 4, .inl fp)), (ru, .inr (7, [.ref s1, .ref s2, .ref s3, .ref s4, .int sz_])), (s1, .inl (E.2.1 0, 12, .inl r1)), (s2, .inl (E.2.1 1, 12, .inl r2)), (s3, .inl (E.2.1 0, 12, .inl r3)), (s4, .inl (E.2.1 0, 12, .inl r4)), (co, .inr (1, [.ref bx, .int bc, .int lc, .int mf, .int li])), (bx, .inl (E.2.1 0, 72, .inl fx)), (h0, .inr (4, [.ref wy, .int wl_, .int (nI ps), .int sta, .int hp, .int fd, .int pe, .int at_, .int go, .int tu, .int wa, .int ce, .int x_43, .int u_16, .int u_17, .int dr]))] H := hP
        have hD : va_D A [(wy, .inl (E.2.1 0, 8, .inl fy)), (sp, .inl (E.2.1 0, 25, .inl fs_)), (po, .inl (E.2.1 0, 10, .inl fo_)), (se, .inr (8, [.ref wi, .ref po])), (wi, .inl (E.2.1 0, 288, .inl fw)), (bo_, .inr (0, [.ref sp, .ref pa, .int lt, .ref ru, .ref co, .ref tr])), (pa, .inl (E.2.1 0, 4, .inl fp)), (ru, .inr (7, [.ref s1, .ref s2, .ref s3, .ref s4, .int sz_])), (s1, .inl (E.2.1 0, 12, .inl r1)), (s2, .inl (E.2.1 1, 12, .inl r2)), (s3, .inl (E.2.1 0, 12, .inl r3)), (s4, .inl (E.2.1 0, 12, .inl r4)), (co, .inr (1, [.ref bx, .int bc, .int lc, .int mf, .int li])), (bx, .inl (E.2.1 0, 72, .inl fx)), (h0, .inr (4, [.ref wy, .int wl_, .int (nI ps), .int sta, .int hp, .int fd, .int pe, .int at_, .int go, .int tu, .int wa, .int ce, .int x_43, .int u_16, .int u_17, .int dr]))] := hD
        refine lv_goto (tgt := 138) hx hb dX4_work_123 (by decide) ?_
        refine lv_aload_n hx hb dX4_work_138 rfl (lv_at hl 4 rfl) ?_
        refine lv_dup hx hb dX4_work_139 rfl ?_
        refine va_get (D := E.1) (ci := 4) (v := .int dr) (C := RX4) (T := TX4) (N := 16) hx hb hts inX4 hown hK hP 14 rfl rfl 15 (by decide) fl59 (fun _ h9 => h9) rfl dX4_work_140 ?_
        refine lv_aload_n hx hb dX4_work_143 rfl (lv_at hl 5 rfl) ?_
        refine lv_aload_n hx hb dX4_work_144 rfl (lv_at hl 4 rfl) ?_
        refine va_get (D := E.1) (ci := 4) (v := .int pe) (C := RX4) (T := TX4) (N := 16) hx hb hts inX4 hown hK hP 14 rfl rfl 6 (by decide) fl31 (fun _ h9 => h9) rfl dX4_work_145 ?_
        have hPc := hP.sub (ws' := [(bo_, .inr (0, [.ref sp, .ref pa, .int lt, .ref ru, .ref co, .ref tr]))]) [5] rfl
        have hDc := hD.sub (ws' := [(bo_, .inr (0, [.ref sp, .ref pa, .int lt, .ref ru, .ref co, .ref tr]))]) [5] (by decide) rfl
        have hFc := va_free (wc := [(bo_, .inr (0, [.ref sp, .ref pa, .int lt, .ref ru, .ref co, .ref tr]))]) hD hS hA [5] rfl
        refine va_calli (va_runV (As := [.int pe]) (rest := [.int dr, .ref h0]) ⟨hx, hb, hml, hown, hts⟩ (c_X0_drink l E bo_ sp pa ru co tr lt pe H.size ) (cwV 1 hts gX4_work_X0_drink rfl rfl rfl hdV_X0_drink ⟨Nat.le_of_ble_eq_true rfl, Nat.le_of_ble_eq_true rfl⟩) ⟨pcW_blind, va_recv hK hPc (ci := 0) (q0 := 0) rfl rfl, (pcW_pre hPc hkn hDc hst hS hFc)⟩ rfl rfl hl.1 rfl (lv_room (Nat.le_of_ble_eq_true rfl)) dX4_work_148 ⟨Nat.le_of_ble_eq_true rfl, Nat.le_of_ble_eq_true rfl⟩) hS (fun q _ h => hFc q h) hFc (fun r_44 u t H1 locs ht hvm hw_45 hB hz1 hk1 hS => ?_)
        obtain ⟨u_46, rfl⟩ : ∃ z, z = u := ⟨_, rfl⟩
        obtain ⟨hP1, hD1⟩ := hB
        rw [ht] at hP1
        try dsimp only at hw_45
        obtain ⟨hP, hD⟩ := va_join (wr := [(wy, .inl (E.2.1 0, 8, .inl fy)), (sp, .inl (E.2.1 0, 25, .inl fs_)), (po, .inl (E.2.1 0, 10, .inl fo_)), (se, .inr (8, [.ref wi, .ref po])), (wi, .inl (E.2.1 0, 288, .inl fw)), (pa, .inl (E.2.1 0, 4, .inl fp)), (ru, .inr (7, [.ref s1, .ref s2, .ref s3, .ref s4, .int sz_])), (s1, .inl (E.2.1 0, 12, .inl r1)), (s2, .inl (E.2.1 1, 12, .inl r2)), (s3, .inl (E.2.1 0, 12, .inl r3)), (s4, .inl (E.2.1 0, 12, .inl r4)), (co, .inr (1, [.ref bx, .int bc, .int lc, .int mf, .int li])), (bx, .inl (E.2.1 0, 72, .inl fx)), (h0, .inr (4, [.ref wy, .int wl_, .int (nI ps), .int sta, .int hp, .int fd, .int pe, .int at_, .int go, .int tu, .int wa, .int ce, .int x_43, .int u_16, .int u_17, .int dr]))]) (w1 := [(bo_, .inr (0, [.ref sp, .ref pa, .int u_46, .ref ru, .ref co, .ref tr]))]) hP hD [5] [0, 1, 2, 3, 4, 6, 7, 8, 9, 10, 11, 12, 13, 14] rfl rfl (by decide) (by decide) hk1 hFc hP1 hD1
        generalize H1 = H at hP hS ⊢
        have hP : va_P E.1 vwCl [(wy, .inl (E.2.1 0, 8, .inl fy)), (sp, .inl (E.2.1 0, 25, .inl fs_)), (po, .inl (E.2.1 0, 10, .inl fo_)), (se, .inr (8, [.ref wi, .ref po])), (wi, .inl (E.2.1 0, 288, .inl fw)), (pa, .inl (E.2.1 0, 4, .inl fp)), (ru, .inr (7, [.ref s1, .ref s2, .ref s3, .ref s4, .int sz_])), (s1, .inl (E.2.1 0, 12, .inl r1)), (s2, .inl (E.2.1 1, 12, .inl r2)), (s3, .inl (E.2.1 0, 12, .inl r3)), (s4, .inl (E.2.1 0, 12, .inl r4)), (co, .inr (1, [.ref bx, .int bc, .int lc, .int mf, .int li])), (bx, .inl (E.2.1 0, 72, .inl fx)), (h0, .inr (4, [.ref wy, .int wl_, .int (nI ps), .int sta, .int hp, .int fd, .int pe, .int at_, .int go, .int tu, .int wa, .int ce, .int x_43, .int u_16, .int u_17, .int dr])), (bo_, .inr (0, [.ref sp, .ref pa, .int u_46, .ref ru, .ref co, .ref tr]))] H := hP
        have hD : va_D A [(wy, .inl (E.2.1 0, 8, .inl fy)), (sp, .inl (E.2.1 0, 25, .inl fs_)), (po, .inl (E.2.1 0, 10, .inl fo_)), (se, .inr (8, [.ref wi, .ref po])), (wi, .inl (E.2.1 0, 288, .inl fw)), (pa, .inl (E.2.1 0, 4, .inl fp)), (ru, .inr (7, [.ref s1, .ref s2, .ref s3, .ref s4, .int sz_])), (s1, .inl (E.2.1 0, 12, .inl r1)), (s2, .inl (E.2.1 1, 12, .inl r2)), (s3, .inl (E.2.1 0, 12, .inl r3)), (s4, .inl (E.2.1 0, 12, .inl r4)), (co, .inr (1, [.ref bx, .int bc, .int lc, .int mf, .int li])), (bx, .inl (E.2.1 0, 72, .inl fx)), (h0, .inr (4, [.ref wy, .int wl_, .int (nI ps), .int sta, .int hp, .int fd, .int pe, .int at_, .int go, .int tu, .int wa, .int ce, .int x_43, .int u_16, .int u_17, .int dr])), (bo_, .inr (0, [.ref sp, .ref pa, .int u_46, .ref ru, .ref co, .ref tr]))] := hD
        refine lv_if_eq (tgt := 158) hx hb dX4_work_151 (by decide) (fun c_47 => ?_) (fun c_47 => ?_)
        · refine lv_iconst (v := 1) hx hb dX4_work_158 (by decide) ?_
          refine lv_iadd hx hb dX4_work_159 ?_
          refine lv_topi (fun x_48 ex_48 => ?_)
          refine va_put (D := E.1) (ci := 4) (v := .int x_48) (ty := .int) (C := RX4) (T := TX4) (N := 16) hx hb hts inX4 tyX4 tyX4_ok nmX4 hown hK hP hD hS 13 rfl rfl 15 (by decide) fl59 (fun _ h9 => h9) rfl (by decide +kernel) rfl rfl (Nat.le_of_ble_eq_true rfl) dX4_work_160 (fun H locs hP hD hS => ?_)
          have hP : va_P E.1 vwCl [(wy, .inl (E.2.1 0, 8, .inl fy)), (sp, .inl (E.2.1 0, 25, .inl fs_)), (po, .inl (E.2.1 0, 10, .inl fo_)), (se, .inr (8, [.ref wi, .ref po])), (wi, .inl (E.2.1 0, 288, .inl fw)), (pa, .inl (E.2.1 0, 4, .inl fp)), (ru, .inr (7, [.ref s1, .ref s2, .ref s3, .ref s4, .int sz_])), (s1, .inl (E.2.1 0, 12, .inl r1)), (s2, .inl (E.2.1 1, 12, .inl r2)), (s3, .inl (E.2.1 0, 12, .inl r3)), (s4, .inl (E.2.1 0, 12, .inl r4)), (co, .inr (1, [.ref bx, .int bc, .int lc, .int mf, .int li])), (bx, .inl (E.2.1 0, 72, .inl fx)), (h0, .inr (4, [.ref wy, .int wl_, .int (nI ps), .int sta, .int hp, .int fd, .int pe, .int at_, .int go, .int tu, .int wa, .int ce, .int x_43, .int u_16, .int u_17, .int x_48])), (bo_, .inr (0, [.ref sp, .ref pa, .int u_46, .ref ru, .ref co, .ref tr]))] H := hP
          have hD : va_D A [(wy, .inl (E.2.1 0, 8, .inl fy)), (sp, .inl (E.2.1 0, 25, .inl fs_)), (po, .inl (E.2.1 0, 10, .inl fo_)), (se, .inr (8, [.ref wi, .ref po])), (wi, .inl (E.2.1 0, 288, .inl fw)), (pa, .inl (E.2.1 0, 4, .inl fp)), (ru, .inr (7, [.ref s1, .ref s2, .ref s3, .ref s4, .int sz_])), (s1, .inl (E.2.1 0, 12, .inl r1)), (s2, .inl (E.2.1 1, 12, .inl r2)), (s3, .inl (E.2.1 0, 12, .inl r3)), (s4, .inl (E.2.1 0, 12, .inl r4)), (co, .inr (1, [.ref bx, .int bc, .int lc, .int mf, .int li])), (bx, .inl (E.2.1 0, 72, .inl fx)), (h0, .inr (4, [.ref wy, .int wl_, .int (nI ps), .int sta, .int hp, .int fd, .int pe, .int at_, .int go, .int tu, .int wa, .int ce, .int x_43, .int u_16, .int u_17, .int x_48])), (bo_, .inr (0, [.ref sp, .ref pa, .int u_46, .ref ru, .ref co, .ref tr]))] := hD
          refine lv_aload_n hx hb dX4_work_163 rfl (lv_at hl 5 rfl) ?_
          have hPc := hP.sub (ws' := [(bo_, .inr (0, [.ref sp, .ref pa, .int u_46, .ref ru, .ref co, .ref tr])), (pa, .inl (E.2.1 0, 4, .inl fp))]) [14, 5] rfl
          have hDc := hD.sub (ws' := [(bo_, .inr (0, [.ref sp, .ref pa, .int u_46, .ref ru, .ref co, .ref tr])), (pa, .inl (E.2.1 0, 4, .inl fp))]) [14, 5] (by decide) rfl
          have hFc := va_free (wc := [(bo_, .inr (0, [.ref sp, .ref pa, .int u_46, .ref ru, .ref co, .ref tr])), (pa, .inl (E.2.1 0, 4, .inl fp))]) hD hS hA [14, 5] rfl
          refine va_callv (va_runV (As := []) (rest := []) ⟨hx, hb, hml, hown, hts⟩ (c_X0_wear l E bo_ sp pa ru co tr u_46 fp H.size ) (cwV 0 hts gX4_work_X0_wear rfl rfl rfl hdV_X0_wear ⟨Nat.le_of_ble_eq_true rfl, Nat.le_of_ble_eq_true rfl⟩) ⟨pcW_blind, va_recv hK hPc (ci := 0) (q0 := 0) rfl rfl, (pcW_pre hPc hkn hDc hst hS hFc)⟩ rfl rfl hl.1 rfl (lv_room (Nat.le_of_ble_eq_true rfl)) dX4_work_164 ⟨Nat.le_of_ble_eq_true rfl, Nat.le_of_ble_eq_true rfl⟩) hS (fun q _ h => hFc q h) hFc (fun u t H1 locs ht hvm hw_50 hB hz1 hk1 hS => ?_)
          obtain ⟨u_51, rfl⟩ : ∃ z, z = u := ⟨_, rfl⟩
          obtain ⟨hP1, hD1⟩ := hB
          rw [ht] at hP1
          try dsimp only at hw_50
          obtain ⟨hP, hD⟩ := va_join (wr := [(wy, .inl (E.2.1 0, 8, .inl fy)), (sp, .inl (E.2.1 0, 25, .inl fs_)), (po, .inl (E.2.1 0, 10, .inl fo_)), (se, .inr (8, [.ref wi, .ref po])), (wi, .inl (E.2.1 0, 288, .inl fw)), (ru, .inr (7, [.ref s1, .ref s2, .ref s3, .ref s4, .int sz_])), (s1, .inl (E.2.1 0, 12, .inl r1)), (s2, .inl (E.2.1 1, 12, .inl r2)), (s3, .inl (E.2.1 0, 12, .inl r3)), (s4, .inl (E.2.1 0, 12, .inl r4)), (co, .inr (1, [.ref bx, .int bc, .int lc, .int mf, .int li])), (bx, .inl (E.2.1 0, 72, .inl fx)), (h0, .inr (4, [.ref wy, .int wl_, .int (nI ps), .int sta, .int hp, .int fd, .int pe, .int at_, .int go, .int tu, .int wa, .int ce, .int x_43, .int u_16, .int u_17, .int x_48]))]) (w1 := [(bo_, .inr (0, [.ref sp, .ref pa, .int u_46, .ref ru, .ref co, .ref tr])), (pa, .inl (E.2.1 0, 4, .inl u_51))]) hP hD [14, 5] [0, 1, 2, 3, 4, 6, 7, 8, 9, 10, 11, 12, 13] rfl rfl (by decide) (by decide) hk1 hFc hP1 hD1
          generalize H1 = H at hP hS ⊢
          have hP : va_P E.1 vwCl [(wy, .inl (E.2.1 0, 8, .inl fy)), (sp, .inl (E.2.1 0, 25, .inl fs_)), (po, .inl (E.2.1 0, 10, .inl fo_)), (se, .inr (8, [.ref wi, .ref po])), (wi, .inl (E.2.1 0, 288, .inl fw)), (ru, .inr (7, [.ref s1, .ref s2, .ref s3, .ref s4, .int sz_])), (s1, .inl (E.2.1 0, 12, .inl r1)), (s2, .inl (E.2.1 1, 12, .inl r2)), (s3, .inl (E.2.1 0, 12, .inl r3)), (s4, .inl (E.2.1 0, 12, .inl r4)), (co, .inr (1, [.ref bx, .int bc, .int lc, .int mf, .int li])), (bx, .inl (E.2.1 0, 72, .inl fx)), (h0, .inr (4, [.ref wy, .int wl_, .int (nI ps), .int sta, .int hp, .int fd, .int pe, .int at_, .int go, .int tu, .int wa, .int ce, .int x_43, .int u_16, .int u_17, .int x_48])), (bo_, .inr (0, [.ref sp, .ref pa, .int u_46, .ref ru, .ref co, .ref tr])), (pa, .inl (E.2.1 0, 4, .inl u_51))] H := hP
          have hD : va_D A [(wy, .inl (E.2.1 0, 8, .inl fy)), (sp, .inl (E.2.1 0, 25, .inl fs_)), (po, .inl (E.2.1 0, 10, .inl fo_)), (se, .inr (8, [.ref wi, .ref po])), (wi, .inl (E.2.1 0, 288, .inl fw)), (ru, .inr (7, [.ref s1, .ref s2, .ref s3, .ref s4, .int sz_])), (s1, .inl (E.2.1 0, 12, .inl r1)), (s2, .inl (E.2.1 1, 12, .inl r2)), (s3, .inl (E.2.1 0, 12, .inl r3)), (s4, .inl (E.2.1 0, 12, .inl r4)), (co, .inr (1, [.ref bx, .int bc, .int lc, .int mf, .int li])), (bx, .inl (E.2.1 0, 72, .inl fx)), (h0, .inr (4, [.ref wy, .int wl_, .int (nI ps), .int sta, .int hp, .int fd, .int pe, .int at_, .int go, .int tu, .int wa, .int ce, .int x_43, .int u_16, .int u_17, .int x_48])), (bo_, .inr (0, [.ref sp, .ref pa, .int u_46, .ref ru, .ref co, .ref tr])), (pa, .inl (E.2.1 0, 4, .inl u_51))] := hD
          refine lv_aload_n hx hb dX4_work_167 rfl (lv_at hl 4 rfl) ?_
          refine lv_dup hx hb dX4_work_168 rfl ?_
          refine va_get (D := E.1) (ci := 4) (v := .int wa) (C := RX4) (T := TX4) (N := 16) hx hb hts inX4 hown hK hP 12 rfl rfl 10 (by decide) fl44 (fun _ h9 => h9) rfl dX4_work_169 ?_
          refine lv_iconst (v := 1) hx hb dX4_work_172 (by decide) ?_
          refine lv_iadd hx hb dX4_work_173 ?_
          refine lv_topi (fun x_52 ex_52 => ?_)
          refine va_put (D := E.1) (ci := 4) (v := .int x_52) (ty := .int) (C := RX4) (T := TX4) (N := 16) hx hb hts inX4 tyX4 tyX4_ok nmX4 hown hK hP hD hS 12 rfl rfl 10 (by decide) fl44 (fun _ h9 => h9) rfl (by decide +kernel) rfl rfl (Nat.le_of_ble_eq_true rfl) dX4_work_174 (fun H locs hP hD hS => ?_)
          have hP : va_P E.1 vwCl [(wy, .inl (E.2.1 0, 8, .inl fy)), (sp, .inl (E.2.1 0, 25, .inl fs_)), (po, .inl (E.2.1 0, 10, .inl fo_)), (se, .inr (8, [.ref wi, .ref po])), (wi, .inl (E.2.1 0, 288, .inl fw)), (ru, .inr (7, [.ref s1, .ref s2, .ref s3, .ref s4, .int sz_])), (s1, .inl (E.2.1 0, 12, .inl r1)), (s2, .inl (E.2.1 1, 12, .inl r2)), (s3, .inl (E.2.1 0, 12, .inl r3)), (s4, .inl (E.2.1 0, 12, .inl r4)), (co, .inr (1, [.ref bx, .int bc, .int lc, .int mf, .int li])), (bx, .inl (E.2.1 0, 72, .inl fx)), (h0, .inr (4, [.ref wy, .int wl_, .int (nI ps), .int sta, .int hp, .int fd, .int pe, .int at_, .int go, .int tu, .int x_52, .int ce, .int x_43, .int u_16, .int u_17, .int x_48])), (bo_, .inr (0, [.ref sp, .ref pa, .int u_46, .ref ru, .ref co, .ref tr])), (pa, .inl (E.2.1 0, 4, .inl u_51))] H := hP
          have hD : va_D A [(wy, .inl (E.2.1 0, 8, .inl fy)), (sp, .inl (E.2.1 0, 25, .inl fs_)), (po, .inl (E.2.1 0, 10, .inl fo_)), (se, .inr (8, [.ref wi, .ref po])), (wi, .inl (E.2.1 0, 288, .inl fw)), (ru, .inr (7, [.ref s1, .ref s2, .ref s3, .ref s4, .int sz_])), (s1, .inl (E.2.1 0, 12, .inl r1)), (s2, .inl (E.2.1 1, 12, .inl r2)), (s3, .inl (E.2.1 0, 12, .inl r3)), (s4, .inl (E.2.1 0, 12, .inl r4)), (co, .inr (1, [.ref bx, .int bc, .int lc, .int mf, .int li])), (bx, .inl (E.2.1 0, 72, .inl fx)), (h0, .inr (4, [.ref wy, .int wl_, .int (nI ps), .int sta, .int hp, .int fd, .int pe, .int at_, .int go, .int tu, .int x_52, .int ce, .int x_43, .int u_16, .int u_17, .int x_48])), (bo_, .inr (0, [.ref sp, .ref pa, .int u_46, .ref ru, .ref co, .ref tr])), (pa, .inl (E.2.1 0, 4, .inl u_51))] := hD
          refine lv_iconst (v := 1) hx hb dX4_work_177 (by decide) ?_
          have hP9 := hP.sub (ws' := [(h0, .inr (4, [.ref wy, .int wl_, .int (nI ps), .int sta, .int hp, .int fd, .int pe, .int at_, .int go, .int tu, .int x_52, .int ce, .int x_43, .int u_16, .int u_17, .int x_48])), (wy, .inl (E.2.1 0, 8, .inl fy)), (bo_, .inr (0, [.ref sp, .ref pa, .int u_46, .ref ru, .ref co, .ref tr])), (sp, .inl (E.2.1 0, 25, .inl fs_)), (pa, .inl (E.2.1 0, 4, .inl u_51)), (ru, .inr (7, [.ref s1, .ref s2, .ref s3, .ref s4, .int sz_])), (s1, .inl (E.2.1 0, 12, .inl r1)), (s2, .inl (E.2.1 1, 12, .inl r2)), (s3, .inl (E.2.1 0, 12, .inl r3)), (s4, .inl (E.2.1 0, 12, .inl r4)), (co, .inr (1, [.ref bx, .int bc, .int lc, .int mf, .int li])), (bx, .inl (E.2.1 0, 72, .inl fx)), (se, .inr (8, [.ref wi, .ref po])), (wi, .inl (E.2.1 0, 288, .inl fw)), (po, .inl (E.2.1 0, 10, .inl fo_))]) [12, 0, 13, 1, 14, 5, 6, 7, 8, 9, 10, 11, 3, 4, 2] rfl
          have hD9 := hD.sub (ws' := [(h0, .inr (4, [.ref wy, .int wl_, .int (nI ps), .int sta, .int hp, .int fd, .int pe, .int at_, .int go, .int tu, .int x_52, .int ce, .int x_43, .int u_16, .int u_17, .int x_48])), (wy, .inl (E.2.1 0, 8, .inl fy)), (bo_, .inr (0, [.ref sp, .ref pa, .int u_46, .ref ru, .ref co, .ref tr])), (sp, .inl (E.2.1 0, 25, .inl fs_)), (pa, .inl (E.2.1 0, 4, .inl u_51)), (ru, .inr (7, [.ref s1, .ref s2, .ref s3, .ref s4, .int sz_])), (s1, .inl (E.2.1 0, 12, .inl r1)), (s2, .inl (E.2.1 1, 12, .inl r2)), (s3, .inl (E.2.1 0, 12, .inl r3)), (s4, .inl (E.2.1 0, 12, .inl r4)), (co, .inr (1, [.ref bx, .int bc, .int lc, .int mf, .int li])), (bx, .inl (E.2.1 0, 72, .inl fx)), (se, .inr (8, [.ref wi, .ref po])), (wi, .inl (E.2.1 0, 288, .inl fw)), (po, .inl (E.2.1 0, 10, .inl fo_))]) [12, 0, 13, 1, 14, 5, 6, 7, 8, 9, 10, 11, 3, 4, 2] (by decide) rfl
          exact W.zret (v := 1) hx hb hr (by decide) (fun t ht hW => ⟨⟨1, (ps, wl_, sta, at_, go, tu, x_52, ce, x_43, u_16, u_17, x_48, fy, u_46, u_51), rfl, Or.inr rfl, hps, by rw [ht]; exact hP9, hD9⟩, hS.F ht⟩) hS.2.2 dX4_work_178
        · refine lv_iconst (v := 0) hx hb dX4_work_154 (by decide) ?_
          refine lv_goto (tgt := 159) hx hb dX4_work_155 (by decide) ?_
          refine lv_iadd hx hb dX4_work_159 ?_
          refine lv_topi (fun x_53 ex_53 => ?_)
          refine va_put (D := E.1) (ci := 4) (v := .int x_53) (ty := .int) (C := RX4) (T := TX4) (N := 16) hx hb hts inX4 tyX4 tyX4_ok nmX4 hown hK hP hD hS 13 rfl rfl 15 (by decide) fl59 (fun _ h9 => h9) rfl (by decide +kernel) rfl rfl (Nat.le_of_ble_eq_true rfl) dX4_work_160 (fun H locs hP hD hS => ?_)
          have hP : va_P E.1 vwCl [(wy, .inl (E.2.1 0, 8, .inl fy)), (sp, .inl (E.2.1 0, 25, .inl fs_)), (po, .inl (E.2.1 0, 10, .inl fo_)), (se, .inr (8, [.ref wi, .ref po])), (wi, .inl (E.2.1 0, 288, .inl fw)), (pa, .inl (E.2.1 0, 4, .inl fp)), (ru, .inr (7, [.ref s1, .ref s2, .ref s3, .ref s4, .int sz_])), (s1, .inl (E.2.1 0, 12, .inl r1)), (s2, .inl (E.2.1 1, 12, .inl r2)), (s3, .inl (E.2.1 0, 12, .inl r3)), (s4, .inl (E.2.1 0, 12, .inl r4)), (co, .inr (1, [.ref bx, .int bc, .int lc, .int mf, .int li])), (bx, .inl (E.2.1 0, 72, .inl fx)), (h0, .inr (4, [.ref wy, .int wl_, .int (nI ps), .int sta, .int hp, .int fd, .int pe, .int at_, .int go, .int tu, .int wa, .int ce, .int x_43, .int u_16, .int u_17, .int x_53])), (bo_, .inr (0, [.ref sp, .ref pa, .int u_46, .ref ru, .ref co, .ref tr]))] H := hP
          have hD : va_D A [(wy, .inl (E.2.1 0, 8, .inl fy)), (sp, .inl (E.2.1 0, 25, .inl fs_)), (po, .inl (E.2.1 0, 10, .inl fo_)), (se, .inr (8, [.ref wi, .ref po])), (wi, .inl (E.2.1 0, 288, .inl fw)), (pa, .inl (E.2.1 0, 4, .inl fp)), (ru, .inr (7, [.ref s1, .ref s2, .ref s3, .ref s4, .int sz_])), (s1, .inl (E.2.1 0, 12, .inl r1)), (s2, .inl (E.2.1 1, 12, .inl r2)), (s3, .inl (E.2.1 0, 12, .inl r3)), (s4, .inl (E.2.1 0, 12, .inl r4)), (co, .inr (1, [.ref bx, .int bc, .int lc, .int mf, .int li])), (bx, .inl (E.2.1 0, 72, .inl fx)), (h0, .inr (4, [.ref wy, .int wl_, .int (nI ps), .int sta, .int hp, .int fd, .int pe, .int at_, .int go, .int tu, .int wa, .int ce, .int x_43, .int u_16, .int u_17, .int x_53])), (bo_, .inr (0, [.ref sp, .ref pa, .int u_46, .ref ru, .ref co, .ref tr]))] := hD
          refine lv_aload_n hx hb dX4_work_163 rfl (lv_at hl 5 rfl) ?_
          have hPc := hP.sub (ws' := [(bo_, .inr (0, [.ref sp, .ref pa, .int u_46, .ref ru, .ref co, .ref tr])), (pa, .inl (E.2.1 0, 4, .inl fp))]) [14, 5] rfl
          have hDc := hD.sub (ws' := [(bo_, .inr (0, [.ref sp, .ref pa, .int u_46, .ref ru, .ref co, .ref tr])), (pa, .inl (E.2.1 0, 4, .inl fp))]) [14, 5] (by decide) rfl
          have hFc := va_free (wc := [(bo_, .inr (0, [.ref sp, .ref pa, .int u_46, .ref ru, .ref co, .ref tr])), (pa, .inl (E.2.1 0, 4, .inl fp))]) hD hS hA [14, 5] rfl
          refine va_callv (va_runV (As := []) (rest := []) ⟨hx, hb, hml, hown, hts⟩ (c_X0_wear l E bo_ sp pa ru co tr u_46 fp H.size ) (cwV 0 hts gX4_work_X0_wear rfl rfl rfl hdV_X0_wear ⟨Nat.le_of_ble_eq_true rfl, Nat.le_of_ble_eq_true rfl⟩) ⟨pcW_blind, va_recv hK hPc (ci := 0) (q0 := 0) rfl rfl, (pcW_pre hPc hkn hDc hst hS hFc)⟩ rfl rfl hl.1 rfl (lv_room (Nat.le_of_ble_eq_true rfl)) dX4_work_164 ⟨Nat.le_of_ble_eq_true rfl, Nat.le_of_ble_eq_true rfl⟩) hS (fun q _ h => hFc q h) hFc (fun u t H1 locs ht hvm hw_55 hB hz1 hk1 hS => ?_)
          obtain ⟨u_56, rfl⟩ : ∃ z, z = u := ⟨_, rfl⟩
          obtain ⟨hP1, hD1⟩ := hB
          rw [ht] at hP1
          try dsimp only at hw_55
          obtain ⟨hP, hD⟩ := va_join (wr := [(wy, .inl (E.2.1 0, 8, .inl fy)), (sp, .inl (E.2.1 0, 25, .inl fs_)), (po, .inl (E.2.1 0, 10, .inl fo_)), (se, .inr (8, [.ref wi, .ref po])), (wi, .inl (E.2.1 0, 288, .inl fw)), (ru, .inr (7, [.ref s1, .ref s2, .ref s3, .ref s4, .int sz_])), (s1, .inl (E.2.1 0, 12, .inl r1)), (s2, .inl (E.2.1 1, 12, .inl r2)), (s3, .inl (E.2.1 0, 12, .inl r3)), (s4, .inl (E.2.1 0, 12, .inl r4)), (co, .inr (1, [.ref bx, .int bc, .int lc, .int mf, .int li])), (bx, .inl (E.2.1 0, 72, .inl fx)), (h0, .inr (4, [.ref wy, .int wl_, .int (nI ps), .int sta, .int hp, .int fd, .int pe, .int at_, .int go, .int tu, .int wa, .int ce, .int x_43, .int u_16, .int u_17, .int x_53]))]) (w1 := [(bo_, .inr (0, [.ref sp, .ref pa, .int u_46, .ref ru, .ref co, .ref tr])), (pa, .inl (E.2.1 0, 4, .inl u_56))]) hP hD [14, 5] [0, 1, 2, 3, 4, 6, 7, 8, 9, 10, 11, 12, 13] rfl rfl (by decide) (by decide) hk1 hFc hP1 hD1
          generalize H1 = H at hP hS ⊢
          have hP : va_P E.1 vwCl [(wy, .inl (E.2.1 0, 8, .inl fy)), (sp, .inl (E.2.1 0, 25, .inl fs_)), (po, .inl (E.2.1 0, 10, .inl fo_)), (se, .inr (8, [.ref wi, .ref po])), (wi, .inl (E.2.1 0, 288, .inl fw)), (ru, .inr (7, [.ref s1, .ref s2, .ref s3, .ref s4, .int sz_])), (s1, .inl (E.2.1 0, 12, .inl r1)), (s2, .inl (E.2.1 1, 12, .inl r2)), (s3, .inl (E.2.1 0, 12, .inl r3)), (s4, .inl (E.2.1 0, 12, .inl r4)), (co, .inr (1, [.ref bx, .int bc, .int lc, .int mf, .int li])), (bx, .inl (E.2.1 0, 72, .inl fx)), (h0, .inr (4, [.ref wy, .int wl_, .int (nI ps), .int sta, .int hp, .int fd, .int pe, .int at_, .int go, .int tu, .int wa, .int ce, .int x_43, .int u_16, .int u_17, .int x_53])), (bo_, .inr (0, [.ref sp, .ref pa, .int u_46, .ref ru, .ref co, .ref tr])), (pa, .inl (E.2.1 0, 4, .inl u_56))] H := hP
          have hD : va_D A [(wy, .inl (E.2.1 0, 8, .inl fy)), (sp, .inl (E.2.1 0, 25, .inl fs_)), (po, .inl (E.2.1 0, 10, .inl fo_)), (se, .inr (8, [.ref wi, .ref po])), (wi, .inl (E.2.1 0, 288, .inl fw)), (ru, .inr (7, [.ref s1, .ref s2, .ref s3, .ref s4, .int sz_])), (s1, .inl (E.2.1 0, 12, .inl r1)), (s2, .inl (E.2.1 1, 12, .inl r2)), (s3, .inl (E.2.1 0, 12, .inl r3)), (s4, .inl (E.2.1 0, 12, .inl r4)), (co, .inr (1, [.ref bx, .int bc, .int lc, .int mf, .int li])), (bx, .inl (E.2.1 0, 72, .inl fx)), (h0, .inr (4, [.ref wy, .int wl_, .int (nI ps), .int sta, .int hp, .int fd, .int pe, .int at_, .int go, .int tu, .int wa, .int ce, .int x_43, .int u_16, .int u_17, .int x_53])), (bo_, .inr (0, [.ref sp, .ref pa, .int u_46, .ref ru, .ref co, .ref tr])), (pa, .inl (E.2.1 0, 4, .inl u_56))] := hD
          refine lv_aload_n hx hb dX4_work_167 rfl (lv_at hl 4 rfl) ?_
          refine lv_dup hx hb dX4_work_168 rfl ?_
          refine va_get (D := E.1) (ci := 4) (v := .int wa) (C := RX4) (T := TX4) (N := 16) hx hb hts inX4 hown hK hP 12 rfl rfl 10 (by decide) fl44 (fun _ h9 => h9) rfl dX4_work_169 ?_
          refine lv_iconst (v := 1) hx hb dX4_work_172 (by decide) ?_
          refine lv_iadd hx hb dX4_work_173 ?_
          refine lv_topi (fun x_57 ex_57 => ?_)
          refine va_put (D := E.1) (ci := 4) (v := .int x_57) (ty := .int) (C := RX4) (T := TX4) (N := 16) hx hb hts inX4 tyX4 tyX4_ok nmX4 hown hK hP hD hS 12 rfl rfl 10 (by decide) fl44 (fun _ h9 => h9) rfl (by decide +kernel) rfl rfl (Nat.le_of_ble_eq_true rfl) dX4_work_174 (fun H locs hP hD hS => ?_)
          have hP : va_P E.1 vwCl [(wy, .inl (E.2.1 0, 8, .inl fy)), (sp, .inl (E.2.1 0, 25, .inl fs_)), (po, .inl (E.2.1 0, 10, .inl fo_)), (se, .inr (8, [.ref wi, .ref po])), (wi, .inl (E.2.1 0, 288, .inl fw)), (ru, .inr (7, [.ref s1, .ref s2, .ref s3, .ref s4, .int sz_])), (s1, .inl (E.2.1 0, 12, .inl r1)), (s2, .inl (E.2.1 1, 12, .inl r2)), (s3, .inl (E.2.1 0, 12, .inl r3)), (s4, .inl (E.2.1 0, 12, .inl r4)), (co, .inr (1, [.ref bx, .int bc, .int lc, .int mf, .int li])), (bx, .inl (E.2.1 0, 72, .inl fx)), (h0, .inr (4, [.ref wy, .int wl_, .int (nI ps), .int sta, .int hp, .int fd, .int pe, .int at_, .int go, .int tu, .int x_57, .int ce, .int x_43, .int u_16, .int u_17, .int x_53])), (bo_, .inr (0, [.ref sp, .ref pa, .int u_46, .ref ru, .ref co, .ref tr])), (pa, .inl (E.2.1 0, 4, .inl u_56))] H := hP
          have hD : va_D A [(wy, .inl (E.2.1 0, 8, .inl fy)), (sp, .inl (E.2.1 0, 25, .inl fs_)), (po, .inl (E.2.1 0, 10, .inl fo_)), (se, .inr (8, [.ref wi, .ref po])), (wi, .inl (E.2.1 0, 288, .inl fw)), (ru, .inr (7, [.ref s1, .ref s2, .ref s3, .ref s4, .int sz_])), (s1, .inl (E.2.1 0, 12, .inl r1)), (s2, .inl (E.2.1 1, 12, .inl r2)), (s3, .inl (E.2.1 0, 12, .inl r3)), (s4, .inl (E.2.1 0, 12, .inl r4)), (co, .inr (1, [.ref bx, .int bc, .int lc, .int mf, .int li])), (bx, .inl (E.2.1 0, 72, .inl fx)), (h0, .inr (4, [.ref wy, .int wl_, .int (nI ps), .int sta, .int hp, .int fd, .int pe, .int at_, .int go, .int tu, .int x_57, .int ce, .int x_43, .int u_16, .int u_17, .int x_53])), (bo_, .inr (0, [.ref sp, .ref pa, .int u_46, .ref ru, .ref co, .ref tr])), (pa, .inl (E.2.1 0, 4, .inl u_56))] := hD
          refine lv_iconst (v := 1) hx hb dX4_work_177 (by decide) ?_
          have hP9 := hP.sub (ws' := [(h0, .inr (4, [.ref wy, .int wl_, .int (nI ps), .int sta, .int hp, .int fd, .int pe, .int at_, .int go, .int tu, .int x_57, .int ce, .int x_43, .int u_16, .int u_17, .int x_53])), (wy, .inl (E.2.1 0, 8, .inl fy)), (bo_, .inr (0, [.ref sp, .ref pa, .int u_46, .ref ru, .ref co, .ref tr])), (sp, .inl (E.2.1 0, 25, .inl fs_)), (pa, .inl (E.2.1 0, 4, .inl u_56)), (ru, .inr (7, [.ref s1, .ref s2, .ref s3, .ref s4, .int sz_])), (s1, .inl (E.2.1 0, 12, .inl r1)), (s2, .inl (E.2.1 1, 12, .inl r2)), (s3, .inl (E.2.1 0, 12, .inl r3)), (s4, .inl (E.2.1 0, 12, .inl r4)), (co, .inr (1, [.ref bx, .int bc, .int lc, .int mf, .int li])), (bx, .inl (E.2.1 0, 72, .inl fx)), (se, .inr (8, [.ref wi, .ref po])), (wi, .inl (E.2.1 0, 288, .inl fw)), (po, .inl (E.2.1 0, 10, .inl fo_))]) [12, 0, 13, 1, 14, 5, 6, 7, 8, 9, 10, 11, 3, 4, 2] rfl
          have hD9 := hD.sub (ws' := [(h0, .inr (4, [.ref wy, .int wl_, .int (nI ps), .int sta, .int hp, .int fd, .int pe, .int at_, .int go, .int tu, .int x_57, .int ce, .int x_43, .int u_16, .int u_17, .int x_53])), (wy, .inl (E.2.1 0, 8, .inl fy)), (bo_, .inr (0, [.ref sp, .ref pa, .int u_46, .ref ru, .ref co, .ref tr])), (sp, .inl (E.2.1 0, 25, .inl fs_)), (pa, .inl (E.2.1 0, 4, .inl u_56)), (ru, .inr (7, [.ref s1, .ref s2, .ref s3, .ref s4, .int sz_])), (s1, .inl (E.2.1 0, 12, .inl r1)), (s2, .inl (E.2.1 1, 12, .inl r2)), (s3, .inl (E.2.1 0, 12, .inl r3)), (s4, .inl (E.2.1 0, 12, .inl r4)), (co, .inr (1, [.ref bx, .int bc, .int lc, .int mf, .int li])), (bx, .inl (E.2.1 0, 72, .inl fx)), (se, .inr (8, [.ref wi, .ref po])), (wi, .inl (E.2.1 0, 288, .inl fw)), (po, .inl (E.2.1 0, 10, .inl fo_))]) [12, 0, 13, 1, 14, 5, 6, 7, 8, 9, 10, 11, 3, 4, 2] (by decide) rfl
          exact W.zret (v := 1) hx hb hr (by decide) (fun t ht hW => ⟨⟨1, (ps, wl_, sta, at_, go, tu, x_57, ce, x_43, u_16, u_17, x_53, fy, u_46, u_56), rfl, Or.inr rfl, hps, by rw [ht]; exact hP9, hD9⟩, hS.F ht⟩) hS.2.2 dX4_work_178
    · refine lv_aload_n hx hb dX4_work_96 rfl (lv_at hl 4 rfl) ?_
      refine va_get (D := E.1) (ci := 4) (v := .int tu) (C := RX4) (T := TX4) (N := 16) hx hb hts inX4 hown hK hP 14 rfl rfl 9 (by decide) fl40 (fun _ h9 => h9) rfl dX4_work_97 ?_
      refine lv_if_ne (tgt := 108) hx hb dX4_work_100 (by decide) (fun c_58 => ?_) (fun c_58 => ?_)
      · refine lv_iload hx hb dX4_work_108 (lv_at hl 0 rfl) ?_
        refine lv_if_ne (tgt := 126) hx hb dX4_work_110 (by decide) (fun c_59 => ?_) (fun c_59 => ?_)
        · refine lv_aload_n hx hb dX4_work_126 rfl (lv_at hl 4 rfl) ?_
          refine lv_aload_n hx hb dX4_work_127 rfl (lv_at hl 5 rfl) ?_
          refine lv_iload hx hb dX4_work_128 (lv_at hl 2 rfl) ?_
          refine lv_bipush (v := 10) hx hb dX4_work_130 (by decide) ?_
          refine lv_idiv hx hb dX4_work_132 (by decide) ?_
          refine lv_topi (fun x_60 ex_60 => ?_)
          refine lv_iload hx hb dX4_work_133 (lv_at hl 1 rfl) ?_
          have hPc := hP.sub (ws' := [(h0, .inr (4, [.ref wy, .int wl_, .int (nI ps), .int sta, .int hp, .int fd, .int pe, .int at_, .int go, .int tu, .int wa, .int ce, .int wt, .int u_16, .int u_17, .int dr])), (wy, .inl (E.2.1 0, 8, .inl fy)), (bo_, .inr (0, [.ref sp, .ref pa, .int lt, .ref ru, .ref co, .ref tr])), (sp, .inl (E.2.1 0, 25, .inl fs_))]) [14, 0, 5, 1] rfl
          have hDc := hD.sub (ws' := [(h0, .inr (4, [.ref wy, .int wl_, .int (nI ps), .int sta, .int hp, .int fd, .int pe, .int at_, .int go, .int tu, .int wa, .int ce, .int wt, .int u_16, .int u_17, .int dr])), (wy, .inl (E.2.1 0, 8, .inl fy)), (bo_, .inr (0, [.ref sp, .ref pa, .int lt, .ref ru, .ref co, .ref tr])), (sp, .inl (E.2.1 0, 25, .inl fs_))]) [14, 0, 5, 1] (by decide) rfl
          have hFc := va_free (wc := [(h0, .inr (4, [.ref wy, .int wl_, .int (nI ps), .int sta, .int hp, .int fd, .int pe, .int at_, .int go, .int tu, .int wa, .int ce, .int wt, .int u_16, .int u_17, .int dr])), (wy, .inl (E.2.1 0, 8, .inl fy)), (bo_, .inr (0, [.ref sp, .ref pa, .int lt, .ref ru, .ref co, .ref tr])), (sp, .inl (E.2.1 0, 25, .inl fs_))]) hD hS hA [14, 0, 5, 1] rfl
          refine va_callv (va_runV (As := [.ref bo_, .int x_60, .int x_5]) (rest := []) ⟨hx, hb, hml, hown, hts⟩ (c_X4_move l E h0 wy ps wl_ sta hp fd pe at_ go tu wa ce wt u_16 u_17 dr fy bo_ sp pa ru co tr lt fs_ x_60 x_5 H.size hps) (cwV 3 hts gX4_work_X4_move rfl rfl rfl hdV_X4_move ⟨Nat.le_of_ble_eq_true rfl, Nat.le_of_ble_eq_true rfl⟩) ⟨pcW_blind, va_recv hK hPc (ci := 4) (q0 := 0) rfl rfl, (pcW_pre hPc hkn hDc hst hS hFc)⟩ rfl rfl hl.1 rfl (lv_room (Nat.le_of_ble_eq_true rfl)) dX4_work_135 ⟨Nat.le_of_ble_eq_true rfl, Nat.le_of_ble_eq_true rfl⟩) hS (fun q _ h => hFc q h) hFc (fun u t H1 locs ht hvm hw_62 hB hz1 hk1 hS => ?_)
          obtain ⟨u_63, u_64, u_65, u_66, u_67⟩ := u
          obtain ⟨hf_68, hP1, hD1⟩ := hB
          rw [ht] at hP1
          try dsimp only at hw_62
          obtain ⟨hP, hD⟩ := va_join (wr := [(po, .inl (E.2.1 0, 10, .inl fo_)), (se, .inr (8, [.ref wi, .ref po])), (wi, .inl (E.2.1 0, 288, .inl fw)), (pa, .inl (E.2.1 0, 4, .inl fp)), (ru, .inr (7, [.ref s1, .ref s2, .ref s3, .ref s4, .int sz_])), (s1, .inl (E.2.1 0, 12, .inl r1)), (s2, .inl (E.2.1 1, 12, .inl r2)), (s3, .inl (E.2.1 0, 12, .inl r3)), (s4, .inl (E.2.1 0, 12, .inl r4)), (co, .inr (1, [.ref bx, .int bc, .int lc, .int mf, .int li])), (bx, .inl (E.2.1 0, 72, .inl fx))]) (w1 := [(h0, .inr (4, [.ref wy, .int wl_, .int (nI u_63), .int u_64, .int hp, .int fd, .int pe, .int u_65, .int u_66, .int tu, .int wa, .int u_67, .int wt, .int u_16, .int u_17, .int dr])), (wy, .inl (E.2.1 0, 8, .inl fy)), (bo_, .inr (0, [.ref sp, .ref pa, .int lt, .ref ru, .ref co, .ref tr])), (sp, .inl (E.2.1 0, 25, .inl fs_))]) hP hD [14, 0, 5, 1] [2, 3, 4, 6, 7, 8, 9, 10, 11, 12, 13] rfl rfl (by decide) (by decide) hk1 hFc hP1 hD1
          generalize H1 = H at hP hS ⊢
          have hP : va_P E.1 vwCl [(po, .inl (E.2.1 0, 10, .inl fo_)), (se, .inr (8, [.ref wi, .ref po])), (wi, .inl (E.2.1 0, 288, .inl fw)), (pa, .inl (E.2.1 0, 4, .inl fp)), (ru, .inr (7, [.ref s1, .ref s2, .ref s3, .ref s4, .int sz_])), (s1, .inl (E.2.1 0, 12, .inl r1)), (s2, .inl (E.2.1 1, 12, .inl r2)), (s3, .inl (E.2.1 0, 12, .inl r3)), (s4, .inl (E.2.1 0, 12, .inl r4)), (co, .inr (1, [.ref bx, .int bc, .int lc, .int mf, .int li])), (bx, .inl (E.2.1 0, 72, .inl fx)), (h0, .inr (4, [.ref wy, .int wl_, .int (nI u_63), .int u_64, .int hp, .int fd, .int pe, .int u_65, .int u_66, .int tu, .int wa, .int u_67, .int wt, .int u_16, .int u_17, .int dr])), (wy, .inl (E.2.1 0, 8, .inl fy)), (bo_, .inr (0, [.ref sp, .ref pa, .int lt, .ref ru, .ref co, .ref tr])), (sp, .inl (E.2.1 0, 25, .inl fs_))] H := hP
          have hD : va_D A [(po, .inl (E.2.1 0, 10, .inl fo_)), (se, .inr (8, [.ref wi, .ref po])), (wi, .inl (E.2.1 0, 288, .inl fw)), (pa, .inl (E.2.1 0, 4, .inl fp)), (ru, .inr (7, [.ref s1, .ref s2, .ref s3, .ref s4, .int sz_])), (s1, .inl (E.2.1 0, 12, .inl r1)), (s2, .inl (E.2.1 1, 12, .inl r2)), (s3, .inl (E.2.1 0, 12, .inl r3)), (s4, .inl (E.2.1 0, 12, .inl r4)), (co, .inr (1, [.ref bx, .int bc, .int lc, .int mf, .int li])), (bx, .inl (E.2.1 0, 72, .inl fx)), (h0, .inr (4, [.ref wy, .int wl_, .int (nI u_63), .int u_64, .int hp, .int fd, .int pe, .int u_65, .int u_66, .int tu, .int wa, .int u_67, .int wt, .int u_16, .int u_17, .int dr])), (wy, .inl (E.2.1 0, 8, .inl fy)), (bo_, .inr (0, [.ref sp, .ref pa, .int lt, .ref ru, .ref co, .ref tr])), (sp, .inl (E.2.1 0, 25, .inl fs_))] := hD
          refine lv_aload_n hx hb dX4_work_138 rfl (lv_at hl 4 rfl) ?_
          refine lv_dup hx hb dX4_work_139 rfl ?_
          refine va_get (D := E.1) (ci := 4) (v := .int dr) (C := RX4) (T := TX4) (N := 16) hx hb hts inX4 hown hK hP 11 rfl rfl 15 (by decide) fl59 (fun _ h9 => h9) rfl dX4_work_140 ?_
          refine lv_aload_n hx hb dX4_work_143 rfl (lv_at hl 5 rfl) ?_
          refine lv_aload_n hx hb dX4_work_144 rfl (lv_at hl 4 rfl) ?_
          refine va_get (D := E.1) (ci := 4) (v := .int pe) (C := RX4) (T := TX4) (N := 16) hx hb hts inX4 hown hK hP 11 rfl rfl 6 (by decide) fl31 (fun _ h9 => h9) rfl dX4_work_145 ?_
          have hPc := hP.sub (ws' := [(bo_, .inr (0, [.ref sp, .ref pa, .int lt, .ref ru, .ref co, .ref tr]))]) [13] rfl
          have hDc := hD.sub (ws' := [(bo_, .inr (0, [.ref sp, .ref pa, .int lt, .ref ru, .ref co, .ref tr]))]) [13] (by decide) rfl
          have hFc := va_free (wc := [(bo_, .inr (0, [.ref sp, .ref pa, .int lt, .ref ru, .ref co, .ref tr]))]) hD hS hA [13] rfl
          refine va_calli (va_runV (As := [.int pe]) (rest := [.int dr, .ref h0]) ⟨hx, hb, hml, hown, hts⟩ (c_X0_drink l E bo_ sp pa ru co tr lt pe H.size ) (cwV 1 hts gX4_work_X0_drink rfl rfl rfl hdV_X0_drink ⟨Nat.le_of_ble_eq_true rfl, Nat.le_of_ble_eq_true rfl⟩) ⟨pcW_blind, va_recv hK hPc (ci := 0) (q0 := 0) rfl rfl, (pcW_pre hPc hkn hDc hst hS hFc)⟩ rfl rfl hl.1 rfl (lv_room (Nat.le_of_ble_eq_true rfl)) dX4_work_148 ⟨Nat.le_of_ble_eq_true rfl, Nat.le_of_ble_eq_true rfl⟩) hS (fun q _ h => hFc q h) hFc (fun r_69 u t H1 locs ht hvm hw_70 hB hz1 hk1 hS => ?_)
          obtain ⟨u_71, rfl⟩ : ∃ z, z = u := ⟨_, rfl⟩
          obtain ⟨hP1, hD1⟩ := hB
          rw [ht] at hP1
          try dsimp only at hw_70
          obtain ⟨hP, hD⟩ := va_join (wr := [(po, .inl (E.2.1 0, 10, .inl fo_)), (se, .inr (8, [.ref wi, .ref po])), (wi, .inl (E.2.1 0, 288, .inl fw)), (pa, .inl (E.2.1 0, 4, .inl fp)), (ru, .inr (7, [.ref s1, .ref s2, .ref s3, .ref s4, .int sz_])), (s1, .inl (E.2.1 0, 12, .inl r1)), (s2, .inl (E.2.1 1, 12, .inl r2)), (s3, .inl (E.2.1 0, 12, .inl r3)), (s4, .inl (E.2.1 0, 12, .inl r4)), (co, .inr (1, [.ref bx, .int bc, .int lc, .int mf, .int li])), (bx, .inl (E.2.1 0, 72, .inl fx)), (h0, .inr (4, [.ref wy, .int wl_, .int (nI u_63), .int u_64, .int hp, .int fd, .int pe, .int u_65, .int u_66, .int tu, .int wa, .int u_67, .int wt, .int u_16, .int u_17, .int dr])), (wy, .inl (E.2.1 0, 8, .inl fy)), (sp, .inl (E.2.1 0, 25, .inl fs_))]) (w1 := [(bo_, .inr (0, [.ref sp, .ref pa, .int u_71, .ref ru, .ref co, .ref tr]))]) hP hD [13] [0, 1, 2, 3, 4, 5, 6, 7, 8, 9, 10, 11, 12, 14] rfl rfl (by decide) (by decide) hk1 hFc hP1 hD1
          generalize H1 = H at hP hS ⊢
          have hP : va_P E.1 vwCl [(po, .inl (E.2.1 0, 10, .inl fo_)), (se, .inr (8, [.ref wi, .ref po])), (wi, .inl (E.2.1 0, 288, .inl fw)), (pa, .inl (E.2.1 0, 4, .inl fp)), (ru, .inr (7, [.ref s1, .ref s2, .ref s3, .ref s4, .int sz_])), (s1, .inl (E.2.1 0, 12, .inl r1)), (s2, .inl (E.2.1 1, 12, .inl r2)), (s3, .inl (E.2.1 0, 12, .inl r3)), (s4, .inl (E.2.1 0, 12, .inl r4)), (co, .inr (1, [.ref bx, .int bc, .int lc, .int mf, .int li])), (bx, .inl (E.2.1 0, 72, .inl fx)), (h0, .inr (4, [.ref wy, .int wl_, .int (nI u_63), .int u_64, .int hp, .int fd, .int pe, .int u_65, .int u_66, .int tu, .int wa, .int u_67, .int wt, .int u_16, .int u_17, .int dr])), (wy, .inl (E.2.1 0, 8, .inl fy)), (sp, .inl (E.2.1 0, 25, .inl fs_)), (bo_, .inr (0, [.ref sp, .ref pa, .int u_71, .ref ru, .ref co, .ref tr]))] H := hP
          have hD : va_D A [(po, .inl (E.2.1 0, 10, .inl fo_)), (se, .inr (8, [.ref wi, .ref po])), (wi, .inl (E.2.1 0, 288, .inl fw)), (pa, .inl (E.2.1 0, 4, .inl fp)), (ru, .inr (7, [.ref s1, .ref s2, .ref s3, .ref s4, .int sz_])), (s1, .inl (E.2.1 0, 12, .inl r1)), (s2, .inl (E.2.1 1, 12, .inl r2)), (s3, .inl (E.2.1 0, 12, .inl r3)), (s4, .inl (E.2.1 0, 12, .inl r4)), (co, .inr (1, [.ref bx, .int bc, .int lc, .int mf, .int li])), (bx, .inl (E.2.1 0, 72, .inl fx)), (h0, .inr (4, [.ref wy, .int wl_, .int (nI u_63), .int u_64, .int hp, .int fd, .int pe, .int u_65, .int u_66, .int tu, .int wa, .int u_67, .int wt, .int u_16, .int u_17, .int dr])), (wy, .inl (E.2.1 0, 8, .inl fy)), (sp, .inl (E.2.1 0, 25, .inl fs_)), (bo_, .inr (0, [.ref sp, .ref pa, .int u_71, .ref ru, .ref co, .ref tr]))] := hD
          refine lv_if_eq (tgt := 158) hx hb dX4_work_151 (by decide) (fun c_72 => ?_) (fun c_72 => ?_)
          · refine lv_iconst (v := 1) hx hb dX4_work_158 (by decide) ?_
            refine lv_iadd hx hb dX4_work_159 ?_
            refine lv_topi (fun x_73 ex_73 => ?_)
            refine va_put (D := E.1) (ci := 4) (v := .int x_73) (ty := .int) (C := RX4) (T := TX4) (N := 16) hx hb hts inX4 tyX4 tyX4_ok nmX4 hown hK hP hD hS 11 rfl rfl 15 (by decide) fl59 (fun _ h9 => h9) rfl (by decide +kernel) rfl rfl (Nat.le_of_ble_eq_true rfl) dX4_work_160 (fun H locs hP hD hS => ?_)
            have hP : va_P E.1 vwCl [(po, .inl (E.2.1 0, 10, .inl fo_)), (se, .inr (8, [.ref wi, .ref po])), (wi, .inl (E.2.1 0, 288, .inl fw)), (pa, .inl (E.2.1 0, 4, .inl fp)), (ru, .inr (7, [.ref s1, .ref s2, .ref s3, .ref s4, .int sz_])), (s1, .inl (E.2.1 0, 12, .inl r1)), (s2, .inl (E.2.1 1, 12, .inl r2)), (s3, .inl (E.2.1 0, 12, .inl r3)), (s4, .inl (E.2.1 0, 12, .inl r4)), (co, .inr (1, [.ref bx, .int bc, .int lc, .int mf, .int li])), (bx, .inl (E.2.1 0, 72, .inl fx)), (h0, .inr (4, [.ref wy, .int wl_, .int (nI u_63), .int u_64, .int hp, .int fd, .int pe, .int u_65, .int u_66, .int tu, .int wa, .int u_67, .int wt, .int u_16, .int u_17, .int x_73])), (wy, .inl (E.2.1 0, 8, .inl fy)), (sp, .inl (E.2.1 0, 25, .inl fs_)), (bo_, .inr (0, [.ref sp, .ref pa, .int u_71, .ref ru, .ref co, .ref tr]))] H := hP
            have hD : va_D A [(po, .inl (E.2.1 0, 10, .inl fo_)), (se, .inr (8, [.ref wi, .ref po])), (wi, .inl (E.2.1 0, 288, .inl fw)), (pa, .inl (E.2.1 0, 4, .inl fp)), (ru, .inr (7, [.ref s1, .ref s2, .ref s3, .ref s4, .int sz_])), (s1, .inl (E.2.1 0, 12, .inl r1)), (s2, .inl (E.2.1 1, 12, .inl r2)), (s3, .inl (E.2.1 0, 12, .inl r3)), (s4, .inl (E.2.1 0, 12, .inl r4)), (co, .inr (1, [.ref bx, .int bc, .int lc, .int mf, .int li])), (bx, .inl (E.2.1 0, 72, .inl fx)), (h0, .inr (4, [.ref wy, .int wl_, .int (nI u_63), .int u_64, .int hp, .int fd, .int pe, .int u_65, .int u_66, .int tu, .int wa, .int u_67, .int wt, .int u_16, .int u_17, .int x_73])), (wy, .inl (E.2.1 0, 8, .inl fy)), (sp, .inl (E.2.1 0, 25, .inl fs_)), (bo_, .inr (0, [.ref sp, .ref pa, .int u_71, .ref ru, .ref co, .ref tr]))] := hD
            refine lv_aload_n hx hb dX4_work_163 rfl (lv_at hl 5 rfl) ?_
            have hPc := hP.sub (ws' := [(bo_, .inr (0, [.ref sp, .ref pa, .int u_71, .ref ru, .ref co, .ref tr])), (pa, .inl (E.2.1 0, 4, .inl fp))]) [14, 3] rfl
            have hDc := hD.sub (ws' := [(bo_, .inr (0, [.ref sp, .ref pa, .int u_71, .ref ru, .ref co, .ref tr])), (pa, .inl (E.2.1 0, 4, .inl fp))]) [14, 3] (by decide) rfl
            have hFc := va_free (wc := [(bo_, .inr (0, [.ref sp, .ref pa, .int u_71, .ref ru, .ref co, .ref tr])), (pa, .inl (E.2.1 0, 4, .inl fp))]) hD hS hA [14, 3] rfl
            refine va_callv (va_runV (As := []) (rest := []) ⟨hx, hb, hml, hown, hts⟩ (c_X0_wear l E bo_ sp pa ru co tr u_71 fp H.size ) (cwV 0 hts gX4_work_X0_wear rfl rfl rfl hdV_X0_wear ⟨Nat.le_of_ble_eq_true rfl, Nat.le_of_ble_eq_true rfl⟩) ⟨pcW_blind, va_recv hK hPc (ci := 0) (q0 := 0) rfl rfl, (pcW_pre hPc hkn hDc hst hS hFc)⟩ rfl rfl hl.1 rfl (lv_room (Nat.le_of_ble_eq_true rfl)) dX4_work_164 ⟨Nat.le_of_ble_eq_true rfl, Nat.le_of_ble_eq_true rfl⟩) hS (fun q _ h => hFc q h) hFc (fun u t H1 locs ht hvm hw_75 hB hz1 hk1 hS => ?_)
            obtain ⟨u_76, rfl⟩ : ∃ z, z = u := ⟨_, rfl⟩
            obtain ⟨hP1, hD1⟩ := hB
            rw [ht] at hP1
            try dsimp only at hw_75
            obtain ⟨hP, hD⟩ := va_join (wr := [(po, .inl (E.2.1 0, 10, .inl fo_)), (se, .inr (8, [.ref wi, .ref po])), (wi, .inl (E.2.1 0, 288, .inl fw)), (ru, .inr (7, [.ref s1, .ref s2, .ref s3, .ref s4, .int sz_])), (s1, .inl (E.2.1 0, 12, .inl r1)), (s2, .inl (E.2.1 1, 12, .inl r2)), (s3, .inl (E.2.1 0, 12, .inl r3)), (s4, .inl (E.2.1 0, 12, .inl r4)), (co, .inr (1, [.ref bx, .int bc, .int lc, .int mf, .int li])), (bx, .inl (E.2.1 0, 72, .inl fx)), (h0, .inr (4, [.ref wy, .int wl_, .int (nI u_63), .int u_64, .int hp, .int fd, .int pe, .int u_65, .int u_66, .int tu, .int wa, .int u_67, .int wt, .int u_16, .int u_17, .int x_73])), (wy, .inl (E.2.1 0, 8, .inl fy)), (sp, .inl (E.2.1 0, 25, .inl fs_))]) (w1 := [(bo_, .inr (0, [.ref sp, .ref pa, .int u_71, .ref ru, .ref co, .ref tr])), (pa, .inl (E.2.1 0, 4, .inl u_76))]) hP hD [14, 3] [0, 1, 2, 4, 5, 6, 7, 8, 9, 10, 11, 12, 13] rfl rfl (by decide) (by decide) hk1 hFc hP1 hD1
            generalize H1 = H at hP hS ⊢
            have hP : va_P E.1 vwCl [(po, .inl (E.2.1 0, 10, .inl fo_)), (se, .inr (8, [.ref wi, .ref po])), (wi, .inl (E.2.1 0, 288, .inl fw)), (ru, .inr (7, [.ref s1, .ref s2, .ref s3, .ref s4, .int sz_])), (s1, .inl (E.2.1 0, 12, .inl r1)), (s2, .inl (E.2.1 1, 12, .inl r2)), (s3, .inl (E.2.1 0, 12, .inl r3)), (s4, .inl (E.2.1 0, 12, .inl r4)), (co, .inr (1, [.ref bx, .int bc, .int lc, .int mf, .int li])), (bx, .inl (E.2.1 0, 72, .inl fx)), (h0, .inr (4, [.ref wy, .int wl_, .int (nI u_63), .int u_64, .int hp, .int fd, .int pe, .int u_65, .int u_66, .int tu, .int wa, .int u_67, .int wt, .int u_16, .int u_17, .int x_73])), (wy, .inl (E.2.1 0, 8, .inl fy)), (sp, .inl (E.2.1 0, 25, .inl fs_)), (bo_, .inr (0, [.ref sp, .ref pa, .int u_71, .ref ru, .ref co, .ref tr])), (pa, .inl (E.2.1 0, 4, .inl u_76))] H := hP
            have hD : va_D A [(po, .inl (E.2.1 0, 10, .inl fo_)), (se, .inr (8, [.ref wi, .ref po])), (wi, .inl (E.2.1 0, 288, .inl fw)), (ru, .inr (7, [.ref s1, .ref s2, .ref s3, .ref s4, .int sz_])), (s1, .inl (E.2.1 0, 12, .inl r1)), (s2, .inl (E.2.1 1, 12, .inl r2)), (s3, .inl (E.2.1 0, 12, .inl r3)), (s4, .inl (E.2.1 0, 12, .inl r4)), (co, .inr (1, [.ref bx, .int bc, .int lc, .int mf, .int li])), (bx, .inl (E.2.1 0, 72, .inl fx)), (h0, .inr (4, [.ref wy, .int wl_, .int (nI u_63), .int u_64, .int hp, .int fd, .int pe, .int u_65, .int u_66, .int tu, .int wa, .int u_67, .int wt, .int u_16, .int u_17, .int x_73])), (wy, .inl (E.2.1 0, 8, .inl fy)), (sp, .inl (E.2.1 0, 25, .inl fs_)), (bo_, .inr (0, [.ref sp, .ref pa, .int u_71, .ref ru, .ref co, .ref tr])), (pa, .inl (E.2.1 0, 4, .inl u_76))] := hD
            refine lv_aload_n hx hb dX4_work_167 rfl (lv_at hl 4 rfl) ?_
            refine lv_dup hx hb dX4_work_168 rfl ?_
            refine va_get (D := E.1) (ci := 4) (v := .int wa) (C := RX4) (T := TX4) (N := 16) hx hb hts inX4 hown hK hP 10 rfl rfl 10 (by decide) fl44 (fun _ h9 => h9) rfl dX4_work_169 ?_
            refine lv_iconst (v := 1) hx hb dX4_work_172 (by decide) ?_
            refine lv_iadd hx hb dX4_work_173 ?_
            refine lv_topi (fun x_77 ex_77 => ?_)
            refine va_put (D := E.1) (ci := 4) (v := .int x_77) (ty := .int) (C := RX4) (T := TX4) (N := 16) hx hb hts inX4 tyX4 tyX4_ok nmX4 hown hK hP hD hS 10 rfl rfl 10 (by decide) fl44 (fun _ h9 => h9) rfl (by decide +kernel) rfl rfl (Nat.le_of_ble_eq_true rfl) dX4_work_174 (fun H locs hP hD hS => ?_)
            have hP : va_P E.1 vwCl [(po, .inl (E.2.1 0, 10, .inl fo_)), (se, .inr (8, [.ref wi, .ref po])), (wi, .inl (E.2.1 0, 288, .inl fw)), (ru, .inr (7, [.ref s1, .ref s2, .ref s3, .ref s4, .int sz_])), (s1, .inl (E.2.1 0, 12, .inl r1)), (s2, .inl (E.2.1 1, 12, .inl r2)), (s3, .inl (E.2.1 0, 12, .inl r3)), (s4, .inl (E.2.1 0, 12, .inl r4)), (co, .inr (1, [.ref bx, .int bc, .int lc, .int mf, .int li])), (bx, .inl (E.2.1 0, 72, .inl fx)), (h0, .inr (4, [.ref wy, .int wl_, .int (nI u_63), .int u_64, .int hp, .int fd, .int pe, .int u_65, .int u_66, .int tu, .int x_77, .int u_67, .int wt, .int u_16, .int u_17, .int x_73])), (wy, .inl (E.2.1 0, 8, .inl fy)), (sp, .inl (E.2.1 0, 25, .inl fs_)), (bo_, .inr (0, [.ref sp, .ref pa, .int u_71, .ref ru, .ref co, .ref tr])), (pa, .inl (E.2.1 0, 4, .inl u_76))] H := hP
            have hD : va_D A [(po, .inl (E.2.1 0, 10, .inl fo_)), (se, .inr (8, [.ref wi, .ref po])), (wi, .inl (E.2.1 0, 288, .inl fw)), (ru, .inr (7, [.ref s1, .ref s2, .ref s3, .ref s4, .int sz_])), (s1, .inl (E.2.1 0, 12, .inl r1)), (s2, .inl (E.2.1 1, 12, .inl r2)), (s3, .inl (E.2.1 0, 12, .inl r3)), (s4, .inl (E.2.1 0, 12, .inl r4)), (co, .inr (1, [.ref bx, .int bc, .int lc, .int mf, .int li])), (bx, .inl (E.2.1 0, 72, .inl fx)), (h0, .inr (4, [.ref wy, .int wl_, .int (nI u_63), .int u_64, .int hp, .int fd, .int pe, .int u_65, .int u_66, .int tu, .int x_77, .int u_67, .int wt, .int u_16, .int u_17, .int x_73])), (wy, .inl (E.2.1 0, 8, .inl fy)), (sp, .inl (E.2.1 0, 25, .inl fs_)), (bo_, .inr (0, [.ref sp, .ref pa, .int u_71, .ref ru, .ref co, .ref tr])), (pa, .inl (E.2.1 0, 4, .inl u_76))] := hD
            refine lv_iconst (v := 1) hx hb dX4_work_177 (by decide) ?_
            have hP9 := hP.sub (ws' := [(h0, .inr (4, [.ref wy, .int wl_, .int (nI u_63), .int u_64, .int hp, .int fd, .int pe, .int u_65, .int u_66, .int tu, .int x_77, .int u_67, .int wt, .int u_16, .int u_17, .int x_73])), (wy, .inl (E.2.1 0, 8, .inl fy)), (bo_, .inr (0, [.ref sp, .ref pa, .int u_71, .ref ru, .ref co, .ref tr])), (sp, .inl (E.2.1 0, 25, .inl fs_)), (pa, .inl (E.2.1 0, 4, .inl u_76)), (ru, .inr (7, [.ref s1, .ref s2, .ref s3, .ref s4, .int sz_])), (s1, .inl (E.2.1 0, 12, .inl r1)), (s2, .inl (E.2.1 1, 12, .inl r2)), (s3, .inl (E.2.1 0, 12, .inl r3)), (s4, .inl (E.2.1 0, 12, .inl r4)), (co, .inr (1, [.ref bx, .int bc, .int lc, .int mf, .int li])), (bx, .inl (E.2.1 0, 72, .inl fx)), (se, .inr (8, [.ref wi, .ref po])), (wi, .inl (E.2.1 0, 288, .inl fw)), (po, .inl (E.2.1 0, 10, .inl fo_))]) [10, 11, 13, 12, 14, 3, 4, 5, 6, 7, 8, 9, 1, 2, 0] rfl
            have hD9 := hD.sub (ws' := [(h0, .inr (4, [.ref wy, .int wl_, .int (nI u_63), .int u_64, .int hp, .int fd, .int pe, .int u_65, .int u_66, .int tu, .int x_77, .int u_67, .int wt, .int u_16, .int u_17, .int x_73])), (wy, .inl (E.2.1 0, 8, .inl fy)), (bo_, .inr (0, [.ref sp, .ref pa, .int u_71, .ref ru, .ref co, .ref tr])), (sp, .inl (E.2.1 0, 25, .inl fs_)), (pa, .inl (E.2.1 0, 4, .inl u_76)), (ru, .inr (7, [.ref s1, .ref s2, .ref s3, .ref s4, .int sz_])), (s1, .inl (E.2.1 0, 12, .inl r1)), (s2, .inl (E.2.1 1, 12, .inl r2)), (s3, .inl (E.2.1 0, 12, .inl r3)), (s4, .inl (E.2.1 0, 12, .inl r4)), (co, .inr (1, [.ref bx, .int bc, .int lc, .int mf, .int li])), (bx, .inl (E.2.1 0, 72, .inl fx)), (se, .inr (8, [.ref wi, .ref po])), (wi, .inl (E.2.1 0, 288, .inl fw)), (po, .inl (E.2.1 0, 10, .inl fo_))]) [10, 11, 13, 12, 14, 3, 4, 5, 6, 7, 8, 9, 1, 2, 0] (by decide) rfl
            exact W.zret (v := 1) hx hb hr (by decide) (fun t ht hW => ⟨⟨1, (u_63, wl_, u_64, u_65, u_66, tu, x_77, u_67, wt, u_16, u_17, x_73, fy, u_71, u_76), rfl, Or.inr rfl, hf_68, by rw [ht]; exact hP9, hD9⟩, hS.F ht⟩) hS.2.2 dX4_work_178
          · refine lv_iconst (v := 0) hx hb dX4_work_154 (by decide) ?_
            refine lv_goto (tgt := 159) hx hb dX4_work_155 (by decide) ?_
            refine lv_iadd hx hb dX4_work_159 ?_
            refine lv_topi (fun x_78 ex_78 => ?_)
            refine va_put (D := E.1) (ci := 4) (v := .int x_78) (ty := .int) (C := RX4) (T := TX4) (N := 16) hx hb hts inX4 tyX4 tyX4_ok nmX4 hown hK hP hD hS 11 rfl rfl 15 (by decide) fl59 (fun _ h9 => h9) rfl (by decide +kernel) rfl rfl (Nat.le_of_ble_eq_true rfl) dX4_work_160 (fun H locs hP hD hS => ?_)
            have hP : va_P E.1 vwCl [(po, .inl (E.2.1 0, 10, .inl fo_)), (se, .inr (8, [.ref wi, .ref po])), (wi, .inl (E.2.1 0, 288, .inl fw)), (pa, .inl (E.2.1 0, 4, .inl fp)), (ru, .inr (7, [.ref s1, .ref s2, .ref s3, .ref s4, .int sz_])), (s1, .inl (E.2.1 0, 12, .inl r1)), (s2, .inl (E.2.1 1, 12, .inl r2)), (s3, .inl (E.2.1 0, 12, .inl r3)), (s4, .inl (E.2.1 0, 12, .inl r4)), (co, .inr (1, [.ref bx, .int bc, .int lc, .int mf, .int li])), (bx, .inl (E.2.1 0, 72, .inl fx)), (h0, .inr (4, [.ref wy, .int wl_, .int (nI u_63), .int u_64, .int hp, .int fd, .int pe, .int u_65, .int u_66, .int tu, .int wa, .int u_67, .int wt, .int u_16, .int u_17, .int x_78])), (wy, .inl (E.2.1 0, 8, .inl fy)), (sp, .inl (E.2.1 0, 25, .inl fs_)), (bo_, .inr (0, [.ref sp, .ref pa, .int u_71, .ref ru, .ref co, .ref tr]))] H := hP
            have hD : va_D A [(po, .inl (E.2.1 0, 10, .inl fo_)), (se, .inr (8, [.ref wi, .ref po])), (wi, .inl (E.2.1 0, 288, .inl fw)), (pa, .inl (E.2.1 0, 4, .inl fp)), (ru, .inr (7, [.ref s1, .ref s2, .ref s3, .ref s4, .int sz_])), (s1, .inl (E.2.1 0, 12, .inl r1)), (s2, .inl (E.2.1 1, 12, .inl r2)), (s3, .inl (E.2.1 0, 12, .inl r3)), (s4, .inl (E.2.1 0, 12, .inl r4)), (co, .inr (1, [.ref bx, .int bc, .int lc, .int mf, .int li])), (bx, .inl (E.2.1 0, 72, .inl fx)), (h0, .inr (4, [.ref wy, .int wl_, .int (nI u_63), .int u_64, .int hp, .int fd, .int pe, .int u_65, .int u_66, .int tu, .int wa, .int u_67, .int wt, .int u_16, .int u_17, .int x_78])), (wy, .inl (E.2.1 0, 8, .inl fy)), (sp, .inl (E.2.1 0, 25, .inl fs_)), (bo_, .inr (0, [.ref sp, .ref pa, .int u_71, .ref ru, .ref co, .ref tr]))] := hD
            refine lv_aload_n hx hb dX4_work_163 rfl (lv_at hl 5 rfl) ?_
            have hPc := hP.sub (ws' := [(bo_, .inr (0, [.ref sp, .ref pa, .int u_71, .ref ru, .ref co, .ref tr])), (pa, .inl (E.2.1 0, 4, .inl fp))]) [14, 3] rfl
            have hDc := hD.sub (ws' := [(bo_, .inr (0, [.ref sp, .ref pa, .int u_71, .ref ru, .ref co, .ref tr])), (pa, .inl (E.2.1 0, 4, .inl fp))]) [14, 3] (by decide) rfl
            have hFc := va_free (wc := [(bo_, .inr (0, [.ref sp, .ref pa, .int u_71, .ref ru, .ref co, .ref tr])), (pa, .inl (E.2.1 0, 4, .inl fp))]) hD hS hA [14, 3] rfl
            refine va_callv (va_runV (As := []) (rest := []) ⟨hx, hb, hml, hown, hts⟩ (c_X0_wear l E bo_ sp pa ru co tr u_71 fp H.size ) (cwV 0 hts gX4_work_X0_wear rfl rfl rfl hdV_X0_wear ⟨Nat.le_of_ble_eq_true rfl, Nat.le_of_ble_eq_true rfl⟩) ⟨pcW_blind, va_recv hK hPc (ci := 0) (q0 := 0) rfl rfl, (pcW_pre hPc hkn hDc hst hS hFc)⟩ rfl rfl hl.1 rfl (lv_room (Nat.le_of_ble_eq_true rfl)) dX4_work_164 ⟨Nat.le_of_ble_eq_true rfl, Nat.le_of_ble_eq_true rfl⟩) hS (fun q _ h => hFc q h) hFc (fun u t H1 locs ht hvm hw_80 hB hz1 hk1 hS => ?_)
            obtain ⟨u_81, rfl⟩ : ∃ z, z = u := ⟨_, rfl⟩
            obtain ⟨hP1, hD1⟩ := hB
            rw [ht] at hP1
            try dsimp only at hw_80
            obtain ⟨hP, hD⟩ := va_join (wr := [(po, .inl (E.2.1 0, 10, .inl fo_)), (se, .inr (8, [.ref wi, .ref po])), (wi, .inl (E.2.1 0, 288, .inl fw)), (ru, .inr (7, [.ref s1, .ref s2, .ref s3, .ref s4, .int sz_])), (s1, .inl (E.2.1 0, 12, .inl r1)), (s2, .inl (E.2.1 1, 12, .inl r2)), (s3, .inl (E.2.1 0, 12, .inl r3)), (s4, .inl (E.2.1 0, 12, .inl r4)), (co, .inr (1, [.ref bx, .int bc, .int lc, .int mf, .int li])), (bx, .inl (E.2.1 0, 72, .inl fx)), (h0, .inr (4, [.ref wy, .int wl_, .int (nI u_63), .int u_64, .int hp, .int fd, .int pe, .int u_65, .int u_66, .int tu, .int wa, .int u_67, .int wt, .int u_16, .int u_17, .int x_78])), (wy, .inl (E.2.1 0, 8, .inl fy)), (sp, .inl (E.2.1 0, 25, .inl fs_))]) (w1 := [(bo_, .inr (0, [.ref sp, .ref pa, .int u_71, .ref ru, .ref co, .ref tr])), (pa, .inl (E.2.1 0, 4, .inl u_81))]) hP hD [14, 3] [0, 1, 2, 4, 5, 6, 7, 8, 9, 10, 11, 12, 13] rfl rfl (by decide) (by decide) hk1 hFc hP1 hD1
            generalize H1 = H at hP hS ⊢
            have hP : va_P E.1 vwCl [(po, .inl (E.2.1 0, 10, .inl fo_)), (se, .inr (8, [.ref wi, .ref po])), (wi, .inl (E.2.1 0, 288, .inl fw)), (ru, .inr (7, [.ref s1, .ref s2, .ref s3, .ref s4, .int sz_])), (s1, .inl (E.2.1 0, 12, .inl r1)), (s2, .inl (E.2.1 1, 12, .inl r2)), (s3, .inl (E.2.1 0, 12, .inl r3)), (s4, .inl (E.2.1 0, 12, .inl r4)), (co, .inr (1, [.ref bx, .int bc, .int lc, .int mf, .int li])), (bx, .inl (E.2.1 0, 72, .inl fx)), (h0, .inr (4, [.ref wy, .int wl_, .int (nI u_63), .int u_64, .int hp, .int fd, .int pe, .int u_65, .int u_66, .int tu, .int wa, .int u_67, .int wt, .int u_16, .int u_17, .int x_78])), (wy, .inl (E.2.1 0, 8, .inl fy)), (sp, .inl (E.2.1 0, 25, .inl fs_)), (bo_, .inr (0, [.ref sp, .ref pa, .int u_71, .ref ru, .ref co, .ref tr])), (pa, .inl (E.2.1 0, 4, .inl u_81))] H := hP
            have hD : va_D A [(po, .inl (E.2.1 0, 10, .inl fo_)), (se, .inr (8, [.ref wi, .ref po])), (wi, .inl (E.2.1 0, 288, .inl fw)), (ru, .inr (7, [.ref s1, .ref s2, .ref s3, .ref s4, .int sz_])), (s1, .inl (E.2.1 0, 12, .inl r1)), (s2, .inl (E.2.1 1, 12, .inl r2)), (s3, .inl (E.2.1 0, 12, .inl r3)), (s4, .inl (E.2.1 0, 12, .inl r4)), (co, .inr (1, [.ref bx, .int bc, .int lc, .int mf, .int li])), (bx, .inl (E.2.1 0, 72, .inl fx)), (h0, .inr (4, [.ref wy, .int wl_, .int (nI u_63), .int u_64, .int hp, .int fd, .int pe, .int u_65, .int u_66, .int tu, .int wa, .int u_67, .int wt, .int u_16, .int u_17, .int x_78])), (wy, .inl (E.2.1 0, 8, .inl fy)), (sp, .inl (E.2.1 0, 25, .inl fs_)), (bo_, .inr (0, [.ref sp, .ref pa, .int u_71, .ref ru, .ref co, .ref tr])), (pa, .inl (E.2.1 0, 4, .inl u_81))] := hD
            refine lv_aload_n hx hb dX4_work_167 rfl (lv_at hl 4 rfl) ?_
            refine lv_dup hx hb dX4_work_168 rfl ?_
            refine va_get (D := E.1) (ci := 4) (v := .int wa) (C := RX4) (T := TX4) (N := 16) hx hb hts inX4 hown hK hP 10 rfl rfl 10 (by decide) fl44 (fun _ h9 => h9) rfl dX4_work_169 ?_
            refine lv_iconst (v := 1) hx hb dX4_work_172 (by decide) ?_
            refine lv_iadd hx hb dX4_work_173 ?_
            refine lv_topi (fun x_82 ex_82 => ?_)
            refine va_put (D := E.1) (ci := 4) (v := .int x_82) (ty := .int) (C := RX4) (T := TX4) (N := 16) hx hb hts inX4 tyX4 tyX4_ok nmX4 hown hK hP hD hS 10 rfl rfl 10 (by decide) fl44 (fun _ h9 => h9) rfl (by decide +kernel) rfl rfl (Nat.le_of_ble_eq_true rfl) dX4_work_174 (fun H locs hP hD hS => ?_)
            have hP : va_P E.1 vwCl [(po, .inl (E.2.1 0, 10, .inl fo_)), (se, .inr (8, [.ref wi, .ref po])), (wi, .inl (E.2.1 0, 288, .inl fw)), (ru, .inr (7, [.ref s1, .ref s2, .ref s3, .ref s4, .int sz_])), (s1, .inl (E.2.1 0, 12, .inl r1)), (s2, .inl (E.2.1 1, 12, .inl r2)), (s3, .inl (E.2.1 0, 12, .inl r3)), (s4, .inl (E.2.1 0, 12, .inl r4)), (co, .inr (1, [.ref bx, .int bc, .int lc, .int mf, .int li])), (bx, .inl (E.2.1 0, 72, .inl fx)), (h0, .inr (4, [.ref wy, .int wl_, .int (nI u_63), .int u_64, .int hp, .int fd, .int pe, .int u_65, .int u_66, .int tu, .int x_82, .int u_67, .int wt, .int u_16, .int u_17, .int x_78])), (wy, .inl (E.2.1 0, 8, .inl fy)), (sp, .inl (E.2.1 0, 25, .inl fs_)), (bo_, .inr (0, [.ref sp, .ref pa, .int u_71, .ref ru, .ref co, .ref tr])), (pa, .inl (E.2.1 0, 4, .inl u_81))] H := hP
            have hD : va_D A [(po, .inl (E.2.1 0, 10, .inl fo_)), (se, .inr (8, [.ref wi, .ref po])), (wi, .inl (E.2.1 0, 288, .inl fw)), (ru, .inr (7, [.ref s1, .ref s2, .ref s3, .ref s4, .int sz_])), (s1, .inl (E.2.1 0, 12, .inl r1)), (s2, .inl (E.2.1 1, 12, .inl r2)), (s3, .inl (E.2.1 0, 12, .inl r3)), (s4, .inl (E.2.1 0, 12, .inl r4)), (co, .inr (1, [.ref bx, .int bc, .int lc, .int mf, .int li])), (bx, .inl (E.2.1 0, 72, .inl fx)), (h0, .inr (4, [.ref wy, .int wl_, .int (nI u_63), .int u_64, .int hp, .int fd, .int pe, .int u_65, .int u_66, .int tu, .int x_82, .int u_67, .int wt, .int u_16, .int u_17, .int x_78])), (wy, .inl (E.2.1 0, 8, .inl fy)), (sp, .inl (E.2.1 0, 25, .inl fs_)), (bo_, .inr (0, [.ref sp, .ref pa, .int u_71, .ref ru, .ref co, .ref tr])), (pa, .inl (E.2.1 0, 4, .inl u_81))] := hD
            refine lv_iconst (v := 1) hx hb dX4_work_177 (by decide) ?_
            have hP9 := hP.sub (ws' := [(h0, .inr (4, [.ref wy, .int wl_, .int (nI u_63), .int u_64, .int hp, .int fd, .int pe, .int u_65, .int u_66, .int tu, .int x_82, .int u_67, .int wt, .int u_16, .int u_17, .int x_78])), (wy, .inl (E.2.1 0, 8, .inl fy)), (bo_, .inr (0, [.ref sp, .ref pa, .int u_71, .ref ru, .ref co, .ref tr])), (sp, .inl (E.2.1 0, 25, .inl fs_)), (pa, .inl (E.2.1 0, 4, .inl u_81)), (ru, .inr (7, [.ref s1, .ref s2, .ref s3, .ref s4, .int sz_])), (s1, .inl (E.2.1 0, 12, .inl r1)), (s2, .inl (E.2.1 1, 12, .inl r2)), (s3, .inl (E.2.1 0, 12, .inl r3)), (s4, .inl (E.2.1 0, 12, .inl r4)), (co, .inr (1, [.ref bx, .int bc, .int lc, .int mf, .int li])), (bx, .inl (E.2.1 0, 72, .inl fx)), (se, .inr (8, [.ref wi, .ref po])), (wi, .inl (E.2.1 0, 288, .inl fw)), (po, .inl (E.2.1 0, 10, .inl fo_))]) [10, 11, 13, 12, 14, 3, 4, 5, 6, 7, 8, 9, 1, 2, 0] rfl
            have hD9 := hD.sub (ws' := [(h0, .inr (4, [.ref wy, .int wl_, .int (nI u_63), .int u_64, .int hp, .int fd, .int pe, .int u_65, .int u_66, .int tu, .int x_82, .int u_67, .int wt, .int u_16, .int u_17, .int x_78])), (wy, .inl (E.2.1 0, 8, .inl fy)), (bo_, .inr (0, [.ref sp, .ref pa, .int u_71, .ref ru, .ref co, .ref tr])), (sp, .inl (E.2.1 0, 25, .inl fs_)), (pa, .inl (E.2.1 0, 4, .inl u_81)), (ru, .inr (7, [.ref s1, .ref s2, .ref s3, .ref s4, .int sz_])), (s1, .inl (E.2.1 0, 12, .inl r1)), (s2, .inl (E.2.1 1, 12, .inl r2)), (s3, .inl (E.2.1 0, 12, .inl r3)), (s4, .inl (E.2.1 0, 12, .inl r4)), (co, .inr (1, [.ref bx, .int bc, .int lc, .int mf, .int li])), (bx, .inl (E.2.1 0, 72, .inl fx)), (se, .inr (8, [.ref wi, .ref po])), (wi, .inl (E.2.1 0, 288, .inl fw)), (po, .inl (E.2.1 0, 10, .inl fo_))]) [10, 11, 13, 12, 14, 3, 4, 5, 6, 7, 8, 9, 1, 2, 0] (by decide) rfl
            exact W.zret (v := 1) hx hb hr (by decide) (fun t ht hW => ⟨⟨1, (u_63, wl_, u_64, u_65, u_66, tu, x_82, u_67, wt, u_16, u_17, x_78, fy, u_71, u_81), rfl, Or.inr rfl, hf_68, by rw [ht]; exact hP9, hD9⟩, hS.F ht⟩) hS.2.2 dX4_work_178
        · refine lv_aload_n hx hb dX4_work_113 rfl (lv_at hl 4 rfl) ?_
          refine lv_dup hx hb dX4_work_114 rfl ?_
          refine va_get (D := E.1) (ci := 4) (v := .int wt) (C := RX4) (T := TX4) (N := 16) hx hb hts inX4 hown hK hP 14 rfl rfl 12 (by decide) fl50 (fun _ h9 => h9) rfl dX4_work_115 ?_
          refine lv_iconst (v := 1) hx hb dX4_work_118 (by decide) ?_
          refine lv_iadd hx hb dX4_work_119 ?_
          refine lv_topi (fun x_83 ex_83 => ?_)
          refine va_put (D := E.1) (ci := 4) (v := .int x_83) (ty := .int) (C := RX4) (T := TX4) (N := 16) hx hb hts inX4 tyX4 tyX4_ok nmX4 hown hK hP hD hS 14 rfl rfl 12 (by decide) fl50 (fun _ h9 => h9) rfl (by decide +kernel) rfl rfl (Nat.le_of_ble_eq_true rfl) dX4_work_120 (fun H locs hP hD hS => ?_)
          have hP : va_P E.1 vwCl [(wy, .inl (E.2.1 0, 8, .inl fy)), (sp, .inl (E.2.1 0, 25, .inl fs_)), (po, .inl (E.2.1 0, 10, .inl fo_)), (se, .inr (8, [.ref wi, .ref po])), (wi, .inl (E.2.1 0, 288, .inl fw)), (bo_, .inr (0, [.ref sp, .ref pa, .int lt, .ref ru, .ref co, .ref tr])), (pa, .inl (E.2.1 0, 4, .inl fp)), (ru, .inr (7, [.ref s1, .ref s2, .ref s3, .ref s4, .int sz_])), (s1, .inl (E.2.1 0, 12, .inl r1)), (s2, .inl (E.2.1 1, 12, .inl r2)), (s3, .inl (E.2.1 0, 12, .inl r3)), (s4, .inl (E.2.1 0, 12, .inl r4)), (co, .inr (1, [.ref bx, .int bc, .int lc, .int mf, .int li])), (bx, .inl (E.2.1 0, 72, .inl fx)), (h0, .inr (4, [.ref wy, .int wl_, .int (nI ps), .int sta, .int hp, .int fd, .int pe, .int at_, .int go, .int tu, .int wa, .int ce, .int x_83, .int u_16, .int u_17, .int dr]))] H := hP
          have hD : va_D A [(wy, .inl (E.2.1 0, 8, .inl fy)), (sp, .inl (E.2.1 0, 25, .inl fs_)), (po, .inl (E.2.1 0, 10, .inl fo_)), (se, .inr (8, [.ref wi, .ref po])), (wi, .inl (E.2.1 0, 288, .inl fw)), (bo_, .inr (0, [.ref sp, .ref pa, .int lt, .ref ru, .ref co, .ref tr])), (pa, .inl (E.2.1 0, 4, .inl fp)), (ru, .inr (7, [.ref s1, .ref s2, .ref s3, .ref s4, .int sz_])), (s1, .inl (E.2.1 0, 12, .inl r1)), (s2, .inl (E.2.1 1, 12, .inl r2)), (s3, .inl (E.2.1 0, 12, .inl r3)), (s4, .inl (E.2.1 0, 12, .inl r4)), (co, .inr (1, [.ref bx, .int bc, .int lc, .int mf, .int li])), (bx, .inl (E.2.1 0, 72, .inl fx)), (h0, .inr (4, [.ref wy, .int wl_, .int (nI ps), .int sta, .int hp, .int fd, .int pe, .int at_, .int go, .int tu, .int wa, .int ce, .int x_83, .int u_16, .int u_17, .int dr]))] := hD
          refine lv_goto (tgt := 138) hx hb dX4_work_123 (by decide) ?_
          refine lv_aload_n hx hb dX4_work_138 rfl (lv_at hl 4 rfl) ?_
          refine lv_dup hx hb dX4_work_139 rfl ?_
          refine va_get (D := E.1) (ci := 4) (v := .int dr) (C := RX4) (T := TX4) (N := 16) hx hb hts inX4 hown hK hP 14 rfl rfl 15 (by decide) fl59 (fun _ h9 => h9) rfl dX4_work_140 ?_
          refine lv_aload_n hx hb dX4_work_143 rfl (lv_at hl 5 rfl) ?_
          refine lv_aload_n hx hb dX4_work_144 rfl (lv_at hl 4 rfl) ?_
          refine va_get (D := E.1) (ci := 4) (v := .int pe) (C := RX4) (T := TX4) (N := 16) hx hb hts inX4 hown hK hP 14 rfl rfl 6 (by decide) fl31 (fun _ h9 => h9) rfl dX4_work_145 ?_
          have hPc := hP.sub (ws' := [(bo_, .inr (0, [.ref sp, .ref pa, .int lt, .ref ru, .ref co, .ref tr]))]) [5] rfl
          have hDc := hD.sub (ws' := [(bo_, .inr (0, [.ref sp, .ref pa, .int lt, .ref ru, .ref co, .ref tr]))]) [5] (by decide) rfl
          have hFc := va_free (wc := [(bo_, .inr (0, [.ref sp, .ref pa, .int lt, .ref ru, .ref co, .ref tr]))]) hD hS hA [5] rfl
          refine va_calli (va_runV (As := [.int pe]) (rest := [.int dr, .ref h0]) ⟨hx, hb, hml, hown, hts⟩ (c_X0_drink l E bo_ sp pa ru co tr lt pe H.size ) (cwV 1 hts gX4_work_X0_drink rfl rfl rfl hdV_X0_drink ⟨Nat.le_of_ble_eq_true rfl, Nat.le_of_ble_eq_true rfl⟩) ⟨pcW_blind, va_recv hK hPc (ci := 0) (q0 := 0) rfl rfl, (pcW_pre hPc hkn hDc hst hS hFc)⟩ rfl rfl hl.1 rfl (lv_room (Nat.le_of_ble_eq_true rfl)) dX4_work_148 ⟨Nat.le_of_ble_eq_true rfl, Nat.le_of_ble_eq_true rfl⟩) hS (fun q _ h => hFc q h) hFc (fun r_84 u t H1 locs ht hvm hw_85 hB hz1 hk1 hS => ?_)
          obtain ⟨u_86, rfl⟩ : ∃ z, z = u := ⟨_, rfl⟩
          obtain ⟨hP1, hD1⟩ := hB
          rw [ht] at hP1
          try dsimp only at hw_85
          obtain ⟨hP, hD⟩ := va_join (wr := [(wy, .inl (E.2.1 0, 8, .inl fy)), (sp, .inl (E.2.1 0, 25, .inl fs_)), (po, .inl (E.2.1 0, 10, .inl fo_)), (se, .inr (8, [.ref wi, .ref po])), (wi, .inl (E.2.1 0, 288, .inl fw)), (pa, .inl (E.2.1 0, 4, .inl fp)), (ru, .inr (7, [.ref s1, .ref s2, .ref s3, .ref s4, .int sz_])), (s1, .inl (E.2.1 0, 12, .inl r1)), (s2, .inl (E.2.1 1, 12, .inl r2)), (s3, .inl (E.2.1 0, 12, .inl r3)), (s4, .inl (E.2.1 0, 12, .inl r4)), (co, .inr (1, [.ref bx, .int bc, .int lc, .int mf, .int li])), (bx, .inl (E.2.1 0, 72, .inl fx)), (h0, .inr (4, [.ref wy, .int wl_, .int (nI ps), .int sta, .int hp, .int fd, .int pe, .int at_, .int go, .int tu, .int wa, .int ce, .int x_83, .int u_16, .int u_17, .int dr]))]) (w1 := [(bo_, .inr (0, [.ref sp, .ref pa, .int u_86, .ref ru, .ref co, .ref tr]))]) hP hD [5] [0, 1, 2, 3, 4, 6, 7, 8, 9, 10, 11, 12, 13, 14] rfl rfl (by decide) (by decide) hk1 hFc hP1 hD1
          generalize H1 = H at hP hS ⊢
          have hP : va_P E.1 vwCl [(wy, .inl (E.2.1 0, 8, .inl fy)), (sp, .inl (E.2.1 0, 25, .inl fs_)), (po, .inl (E.2.1 0, 10, .inl fo_)), (se, .inr (8, [.ref wi, .ref po])), (wi, .inl (E.2.1 0, 288, .inl fw)), (pa, .inl (E.2.1 0, 4, .inl fp)), (ru, .inr (7, [.ref s1, .ref s2, .ref s3, .ref s4, .int sz_])), (s1, .inl (E.2.1 0, 12, .inl r1)), (s2, .inl (E.2.1 1, 12, .inl r2)), (s3, .inl (E.2.1 0, 12, .inl r3)), (s4, .inl (E.2.1 0, 12, .inl r4)), (co, .inr (1, [.ref bx, .int bc, .int lc, .int mf, .int li])), (bx, .inl (E.2.1 0, 72, .inl fx)), (h0, .inr (4, [.ref wy, .int wl_, .int (nI ps), .int sta, .int hp, .int fd, .int pe, .int at_, .int go, .int tu, .int wa, .int ce, .int x_83, .int u_16, .int u_17, .int dr])), (bo_, .inr (0, [.ref sp, .ref pa, .int u_86, .ref ru, .ref co, .ref tr]))] H := hP
          have hD : va_D A [(wy, .inl (E.2.1 0, 8, .inl fy)), (sp, .inl (E.2.1 0, 25, .inl fs_)), (po, .inl (E.2.1 0, 10, .inl fo_)), (se, .inr (8, [.ref wi, .ref po])), (wi, .inl (E.2.1 0, 288, .inl fw)), (pa, .inl (E.2.1 0, 4, .inl fp)), (ru, .inr (7, [.ref s1, .ref s2, .ref s3, .ref s4, .int sz_])), (s1, .inl (E.2.1 0, 12, .inl r1)), (s2, .inl (E.2.1 1, 12, .inl r2)), (s3, .inl (E.2.1 0, 12, .inl r3)), (s4, .inl (E.2.1 0, 12, .inl r4)), (co, .inr (1, [.ref bx, .int bc, .int lc, .int mf, .int li])), (bx, .inl (E.2.1 0, 72, .inl fx)), (h0, .inr (4, [.ref wy, .int wl_, .int (nI ps), .int sta, .int hp, .int fd, .int pe, .int at_, .int go, .int tu, .int wa, .int ce, .int x_83, .int u_16, .int u_17, .int dr])), (bo_, .inr (0, [.ref sp, .ref pa, .int u_86, .ref ru, .ref co, .ref tr]))] := hD
          refine lv_if_eq (tgt := 158) hx hb dX4_work_151 (by decide) (fun c_87 => ?_) (fun c_87 => ?_)
          · refine lv_iconst (v := 1) hx hb dX4_work_158 (by decide) ?_
            refine lv_iadd hx hb dX4_work_159 ?_
            refine lv_topi (fun x_88 ex_88 => ?_)
            refine va_put (D := E.1) (ci := 4) (v := .int x_88) (ty := .int) (C := RX4) (T := TX4) (N := 16) hx hb hts inX4 tyX4 tyX4_ok nmX4 hown hK hP hD hS 13 rfl rfl 15 (by decide) fl59 (fun _ h9 => h9) rfl (by decide +kernel) rfl rfl (Nat.le_of_ble_eq_true rfl) dX4_work_160 (fun H locs hP hD hS => ?_)
            have hP : va_P E.1 vwCl [(wy, .inl (E.2.1 0, 8, .inl fy)), (sp, .inl (E.2.1 0, 25, .inl fs_)), (po, .inl (E.2.1 0, 10, .inl fo_)), (se, .inr (8, [.ref wi, .ref po])), (wi, .inl (E.2.1 0, 288, .inl fw)), (pa, .inl (E.2.1 0, 4, .inl fp)), (ru, .inr (7, [.ref s1, .ref s2, .ref s3, .ref s4, .int sz_])), (s1, .inl (E.2.1 0, 12, .inl r1)), (s2, .inl (E.2.1 1, 12, .inl r2)), (s3, .inl (E.2.1 0, 12, .inl r3)), (s4, .inl (E.2.1 0, 12, .inl r4)), (co, .inr (1, [.ref bx, .int bc, .int lc, .int mf, .int li])), (bx, .inl (E.2.1 0, 72, .inl fx)), (h0, .inr (4, [.ref wy, .int wl_, .int (nI ps), .int sta, .int hp, .int fd, .int pe, .int at_, .int go, .int tu, .int wa, .int ce, .int x_83, .int u_16, .int u_17, .int x_88])), (bo_, .inr (0, [.ref sp, .ref pa, .int u_86, .ref ru, .ref co, .ref tr]))] H := hP
            have hD : va_D A [(wy, .inl (E.2.1 0, 8, .inl fy)), (sp, .inl (E.2.1 0, 25, .inl fs_)), (po, .inl (E.2.1 0, 10, .inl fo_)), (se, .inr (8, [.ref wi, .ref po])), (wi, .inl (E.2.1 0, 288, .inl fw)), (pa, .inl (E.2.1 0, 4, .inl fp)), (ru, .inr (7, [.ref s1, .ref s2, .ref s3, .ref s4, .int sz_])), (s1, .inl (E.2.1 0, 12, .inl r1)), (s2, .inl (E.2.1 1, 12, .inl r2)), (s3, .inl (E.2.1 0, 12, .inl r3)), (s4, .inl (E.2.1 0, 12, .inl r4)), (co, .inr (1, [.ref bx, .int bc, .int lc, .int mf, .int li])), (bx, .inl (E.2.1 0, 72, .inl fx)), (h0, .inr (4, [.ref wy, .int wl_, .int (nI ps), .int sta, .int hp, .int fd, .int pe, .int at_, .int go, .int tu, .int wa, .int ce, .int x_83, .int u_16, .int u_17, .int x_88])), (bo_, .inr (0, [.ref sp, .ref pa, .int u_86, .ref ru, .ref co, .ref tr]))] := hD
            refine lv_aload_n hx hb dX4_work_163 rfl (lv_at hl 5 rfl) ?_
            have hPc := hP.sub (ws' := [(bo_, .inr (0, [.ref sp, .ref pa, .int u_86, .ref ru, .ref co, .ref tr])), (pa, .inl (E.2.1 0, 4, .inl fp))]) [14, 5] rfl
            have hDc := hD.sub (ws' := [(bo_, .inr (0, [.ref sp, .ref pa, .int u_86, .ref ru, .ref co, .ref tr])), (pa, .inl (E.2.1 0, 4, .inl fp))]) [14, 5] (by decide) rfl
            have hFc := va_free (wc := [(bo_, .inr (0, [.ref sp, .ref pa, .int u_86, .ref ru, .ref co, .ref tr])), (pa, .inl (E.2.1 0, 4, .inl fp))]) hD hS hA [14, 5] rfl
            refine va_callv (va_runV (As := []) (rest := []) ⟨hx, hb, hml, hown, hts⟩ (c_X0_wear l E bo_ sp pa ru co tr u_86 fp H.size ) (cwV 0 hts gX4_work_X0_wear rfl rfl rfl hdV_X0_wear ⟨Nat.le_of_ble_eq_true rfl, Nat.le_of_ble_eq_true rfl⟩) ⟨pcW_blind, va_recv hK hPc (ci := 0) (q0 := 0) rfl rfl, (pcW_pre hPc hkn hDc hst hS hFc)⟩ rfl rfl hl.1 rfl (lv_room (Nat.le_of_ble_eq_true rfl)) dX4_work_164 ⟨Nat.le_of_ble_eq_true rfl, Nat.le_of_ble_eq_true rfl⟩) hS (fun q _ h => hFc q h) hFc (fun u t H1 locs ht hvm hw_90 hB hz1 hk1 hS => ?_)
            obtain ⟨u_91, rfl⟩ : ∃ z, z = u := ⟨_, rfl⟩
            obtain ⟨hP1, hD1⟩ := hB
            rw [ht] at hP1
            try dsimp only at hw_90
            obtain ⟨hP, hD⟩ := va_join (wr := [(wy, .inl (E.2.1 0, 8, .inl fy)), (sp, .inl (E.2.1 0, 25, .inl fs_)), (po, .inl (E.2.1 0, 10, .inl fo_)), (se, .inr (8, [.ref wi, .ref po])), (wi, .inl (E.2.1 0, 288, .inl fw)), (ru, .inr (7, [.ref s1, .ref s2, .ref s3, .ref s4, .int sz_])), (s1, .inl (E.2.1 0, 12, .inl r1)), (s2, .inl (E.2.1 1, 12, .inl r2)), (s3, .inl (E.2.1 0, 12, .inl r3)), (s4, .inl (E.2.1 0, 12, .inl r4)), (co, .inr (1, [.ref bx, .int bc, .int lc, .int mf, .int li])), (bx, .inl (E.2.1 0, 72, .inl fx)), (h0, .inr (4, [.ref wy, .int wl_, .int (nI ps), .int sta, .int hp, .int fd, .int pe, .int at_, .int go, .int tu, .int wa, .int ce, .int x_83, .int u_16, .int u_17, .int x_88]))]) (w1 := [(bo_, .inr (0, [.ref sp, .ref pa, .int u_86, .ref ru, .ref co, .ref tr])), (pa, .inl (E.2.1 0, 4, .inl u_91))]) hP hD [14, 5] [0, 1, 2, 3, 4, 6, 7, 8, 9, 10, 11, 12, 13] rfl rfl (by decide) (by decide) hk1 hFc hP1 hD1
            generalize H1 = H at hP hS ⊢
            have hP : va_P E.1 vwCl [(wy, .inl (E.2.1 0, 8, .inl fy)), (sp, .inl (E.2.1 0, 25, .inl fs_)), (po, .inl (E.2.1 0, 10, .inl fo_)), (se, .inr (8, [.ref wi, .ref po])), (wi, .inl (E.2.1 0, 288, .inl fw)), (ru, .inr (7, [.ref s1, .ref s2, .ref s3, .ref s4, .int sz_])), (s1, .inl (E.2.1 0, 12, .inl r1)), (s2, .inl (E.2.1 1, 12, .inl r2)), (s3, .inl (E.2.1 0, 12, .inl r3)), (s4, .inl (E.2.1 0, 12, .inl r4)), (co, .inr (1, [.ref bx, .int bc, .int lc, .int mf, .int li])), (bx, .inl (E.2.1 0, 72, .inl fx)), (h0, .inr (4, [.ref wy, .int wl_, .int (nI ps), .int sta, .int hp, .int fd, .int pe, .int at_, .int go, .int tu, .int wa, .int ce, .int x_83, .int u_16, .int u_17, .int x_88])), (bo_, .inr (0, [.ref sp, .ref pa, .int u_86, .ref ru, .ref co, .ref tr])), (pa, .inl (E.2.1 0, 4, .inl u_91))] H := hP
            have hD : va_D A [(wy, .inl (E.2.1 0, 8, .inl fy)), (sp, .inl (E.2.1 0, 25, .inl fs_)), (po, .inl (E.2.1 0, 10, .inl fo_)), (se, .inr (8, [.ref wi, .ref po])), (wi, .inl (E.2.1 0, 288, .inl fw)), (ru, .inr (7, [.ref s1, .ref s2, .ref s3, .ref s4, .int sz_])), (s1, .inl (E.2.1 0, 12, .inl r1)), (s2, .inl (E.2.1 1, 12, .inl r2)), (s3, .inl (E.2.1 0, 12, .inl r3)), (s4, .inl (E.2.1 0, 12, .inl r4)), (co, .inr (1, [.ref bx, .int bc, .int lc, .int mf, .int li])), (bx, .inl (E.2.1 0, 72, .inl fx)), (h0, .inr (4, [.ref wy, .int wl_, .int (nI ps), .int sta, .int hp, .int fd, .int pe, .int at_, .int go, .int tu, .int wa, .int ce, .int x_83, .int u_16, .int u_17, .int x_88])), (bo_, .inr (0, [.ref sp, .ref pa, .int u_86, .ref ru, .ref co, .ref tr])), (pa, .inl (E.2.1 0, 4, .inl u_91))] := hD
            refine lv_aload_n hx hb dX4_work_167 rfl (lv_at hl 4 rfl) ?_
            refine lv_dup hx hb dX4_work_168 rfl ?_
            refine va_get (D := E.1) (ci := 4) (v := .int wa) (C := RX4) (T := TX4) (N := 16) hx hb hts inX4 hown hK hP 12 rfl rfl 10 (by decide) fl44 (fun _ h9 => h9) rfl dX4_work_169 ?_
            refine lv_iconst (v := 1) hx hb dX4_work_172 (by decide) ?_
            refine lv_iadd hx hb dX4_work_173 ?_
            refine lv_topi (fun x_92 ex_92 => ?_)
            refine va_put (D := E.1) (ci := 4) (v := .int x_92) (ty := .int) (C := RX4) (T := TX4) (N := 16) hx hb hts inX4 tyX4 tyX4_ok nmX4 hown hK hP hD hS 12 rfl rfl 10 (by decide) fl44 (fun _ h9 => h9) rfl (by decide +kernel) rfl rfl (Nat.le_of_ble_eq_true rfl) dX4_work_174 (fun H locs hP hD hS => ?_)
            have hP : va_P E.1 vwCl [(wy, .inl (E.2.1 0, 8, .inl fy)), (sp, .inl (E.2.1 0, 25, .inl fs_)), (po, .inl (E.2.1 0, 10, .inl fo_)), (se, .inr (8, [.ref wi, .ref po])), (wi, .inl (E.2.1 0, 288, .inl fw)), (ru, .inr (7, [.ref s1, .ref s2, .ref s3, .ref s4, .int sz_])), (s1, .inl (E.2.1 0, 12, .inl r1)), (s2, .inl (E.2.1 1, 12, .inl r2)), (s3, .inl (E.2.1 0, 12, .inl r3)), (s4, .inl (E.2.1 0, 12, .inl r4)), (co, .inr (1, [.ref bx, .int bc, .int lc, .int mf, .int li])), (bx, .inl (E.2.1 0, 72, .inl fx)), (h0, .inr (4, [.ref wy, .int wl_, .int (nI ps), .int sta, .int hp, .int fd, .int pe, .int at_, .int go, .int tu, .int x_92, .int ce, .int x_83, .int u_16, .int u_17, .int x_88])), (bo_, .inr (0, [.ref sp, .ref pa, .int u_86, .ref ru, .ref co, .ref tr])), (pa, .inl (E.2.1 0, 4, .inl u_91))] H := hP
            have hD : va_D A [(wy, .inl (E.2.1 0, 8, .inl fy)), (sp, .inl (E.2.1 0, 25, .inl fs_)), (po, .inl (E.2.1 0, 10, .inl fo_)), (se, .inr (8, [.ref wi, .ref po])), (wi, .inl (E.2.1 0, 288, .inl fw)), (ru, .inr (7, [.ref s1, .ref s2, .ref s3, .ref s4, .int sz_])), (s1, .inl (E.2.1 0, 12, .inl r1)), (s2, .inl (E.2.1 1, 12, .inl r2)), (s3, .inl (E.2.1 0, 12, .inl r3)), (s4, .inl (E.2.1 0, 12, .inl r4)), (co, .inr (1, [.ref bx, .int bc, .int lc, .int mf, .int li])), (bx, .inl (E.2.1 0, 72, .inl fx)), (h0, .inr (4, [.ref wy, .int wl_, .int (nI ps), .int sta, .int hp, .int fd, .int pe, .int at_, .int go, .int tu, .int x_92, .int ce, .int x_83, .int u_16, .int u_17, .int x_88])), (bo_, .inr (0, [.ref sp, .ref pa, .int u_86, .ref ru, .ref co, .ref tr])), (pa, .inl (E.2.1 0, 4, .inl u_91))] := hD
            refine lv_iconst (v := 1) hx hb dX4_work_177 (by decide) ?_
            have hP9 := hP.sub (ws' := [(h0, .inr (4, [.ref wy, .int wl_, .int (nI ps), .int sta, .int hp, .int fd, .int pe, .int at_, .int go, .int tu, .int x_92, .int ce, .int x_83, .int u_16, .int u_17, .int x_88])), (wy, .inl (E.2.1 0, 8, .inl fy)), (bo_, .inr (0, [.ref sp, .ref pa, .int u_86, .ref ru, .ref co, .ref tr])), (sp, .inl (E.2.1 0, 25, .inl fs_)), (pa, .inl (E.2.1 0, 4, .inl u_91)), (ru, .inr (7, [.ref s1, .ref s2, .ref s3, .ref s4, .int sz_])), (s1, .inl (E.2.1 0, 12, .inl r1)), (s2, .inl (E.2.1 1, 12, .inl r2)), (s3, .inl (E.2.1 0, 12, .inl r3)), (s4, .inl (E.2.1 0, 12, .inl r4)), (co, .inr (1, [.ref bx, .int bc, .int lc, .int mf, .int li])), (bx, .inl (E.2.1 0, 72, .inl fx)), (se, .inr (8, [.ref wi, .ref po])), (wi, .inl (E.2.1 0, 288, .inl fw)), (po, .inl (E.2.1 0, 10, .inl fo_))]) [12, 0, 13, 1, 14, 5, 6, 7, 8, 9, 10, 11, 3, 4, 2] rfl
            have hD9 := hD.sub (ws' := [(h0, .inr (4, [.ref wy, .int wl_, .int (nI ps), .int sta, .int hp, .int fd, .int pe, .int at_, .int go, .int tu, .int x_92, .int ce, .int x_83, .int u_16, .int u_17, .int x_88])), (wy, .inl (E.2.1 0, 8, .inl fy)), (bo_, .inr (0, [.ref sp, .ref pa, .int u_86, .ref ru, .ref co, .ref tr])), (sp, .inl (E.2.1 0, 25, .inl fs_)), (pa, .inl (E.2.1 0, 4, .inl u_91)), (ru, .inr (7, [.ref s1, .ref s2, .ref s3, .ref s4, .int sz_])), (s1, .inl (E.2.1 0, 12, .inl r1)), (s2, .inl (E.2.1 1, 12, .inl r2)), (s3, .inl (E.2.1 0, 12, .inl r3)), (s4, .inl (E.2.1 0, 12, .inl r4)), (co, .inr (1, [.ref bx, .int bc, .int lc, .int mf, .int li])), (bx, .inl (E.2.1 0, 72, .inl fx)), (se, .inr (8, [.ref wi, .ref po])), (wi, .inl (E.2.1 0, 288, .inl fw)), (po, .inl (E.2.1 0, 10, .inl fo_))]) [12, 0, 13, 1, 14, 5, 6, 7, 8, 9, 10, 11, 3, 4, 2] (by decide) rfl
            exact W.zret (v := 1) hx hb hr (by decide) (fun t ht hW => ⟨⟨1, (ps, wl_, sta, at_, go, tu, x_92, ce, x_83, u_16, u_17, x_88, fy, u_86, u_91), rfl, Or.inr rfl, hps, by rw [ht]; exact hP9, hD9⟩, hS.F ht⟩) hS.2.2 dX4_work_178
          · refine lv_iconst (v := 0) hx hb dX4_work_154 (by decide) ?_
            refine lv_goto (tgt := 159) hx hb dX4_work_155 (by decide) ?_
            refine lv_iadd hx hb dX4_work_159 ?_
            refine lv_topi (fun x_93 ex_93 => ?_)
            refine va_put (D := E.1) (ci := 4) (v := .int x_93) (ty := .int) (C := RX4) (T := TX4) (N := 16) hx hb hts inX4 tyX4 tyX4_ok nmX4 hown hK hP hD hS 13 rfl rfl 15 (by decide) fl59 (fun _ h9 => h9) rfl (by decide +kernel) rfl rfl (Nat.le_of_ble_eq_true rfl) dX4_work_160 (fun H locs hP hD hS => ?_)
            have hP : va_P E.1 vwCl [(wy, .inl (E.2.1 0, 8, .inl fy)), (sp, .inl (E.2.1 0, 25, .inl fs_)), (po, .inl (E.2.1 0, 10, .inl fo_)), (se, .inr (8, [.ref wi, .ref po])), (wi, .inl (E.2.1 0, 288, .inl fw)), (pa, .inl (E.2.1 0, 4, .inl fp)), (ru, .inr (7, [.ref s1, .ref s2, .ref s3, .ref s4, .int sz_])), (s1, .inl (E.2.1 0, 12, .inl r1)), (s2, .inl (E.2.1 1, 12, .inl r2)), (s3, .inl (E.2.1 0, 12, .inl r3)), (s4, .inl (E.2.1 0, 12, .inl r4)), (co, .inr (1, [.ref bx, .int bc, .int lc, .int mf, .int li])), (bx, .inl (E.2.1 0, 72, .inl fx)), (h0, .inr (4, [.ref wy, .int wl_, .int (nI ps), .int sta, .int hp, .int fd, .int pe, .int at_, .int go, .int tu, .int wa, .int ce, .int x_83, .int u_16, .int u_17, .int x_93])), (bo_, .inr (0, [.ref sp, .ref pa, .int u_86, .ref ru, .ref co, .ref tr]))] H := hP
            have hD : va_D A [(wy, .inl (E.2.1 0, 8, .inl fy)), (sp, .inl (E.2.1 0, 25, .inl fs_)), (po, .inl (E.2.1 0, 10, .inl fo_)), (se, .inr (8, [.ref wi, .ref po])), (wi, .inl (E.2.1 0, 288, .inl fw)), (pa, .inl (E.2.1 0, 4, .inl fp)), (ru, .inr (7, [.ref s1, .ref s2, .ref s3, .ref s4, .int sz_])), (s1, .inl (E.2.1 0, 12, .inl r1)), (s2, .inl (E.2.1 1, 12, .inl r2)), (s3, .inl (E.2.1 0, 12, .inl r3)), (s4, .inl (E.2.1 0, 12, .inl r4)), (co, .inr (1, [.ref bx, .int bc, .int lc, .int mf, .int li])), (bx, .inl (E.2.1 0, 72, .inl fx)), (h0, .inr (4, [.ref wy, .int wl_, .int (nI ps), .int sta, .int hp, .int fd, .int pe, .int at_, .int go, .int tu, .int wa, .int ce, .int x_83, .int u_16, .int u_17, .int x_93])), (bo_, .inr (0, [.ref sp, .ref pa, .int u_86, .ref ru, .ref co, .ref tr]))] := hD
            refine lv_aload_n hx hb dX4_work_163 rfl (lv_at hl 5 rfl) ?_
            have hPc := hP.sub (ws' := [(bo_, .inr (0, [.ref sp, .ref pa, .int u_86, .ref ru, .ref co, .ref tr])), (pa, .inl (E.2.1 0, 4, .inl fp))]) [14, 5] rfl
            have hDc := hD.sub (ws' := [(bo_, .inr (0, [.ref sp, .ref pa, .int u_86, .ref ru, .ref co, .ref tr])), (pa, .inl (E.2.1 0, 4, .inl fp))]) [14, 5] (by decide) rfl
            have hFc := va_free (wc := [(bo_, .inr (0, [.ref sp, .ref pa, .int u_86, .ref ru, .ref co, .ref tr])), (pa, .inl (E.2.1 0, 4, .inl fp))]) hD hS hA [14, 5] rfl
            refine va_callv (va_runV (As := []) (rest := []) ⟨hx, hb, hml, hown, hts⟩ (c_X0_wear l E bo_ sp pa ru co tr u_86 fp H.size ) (cwV 0 hts gX4_work_X0_wear rfl rfl rfl hdV_X0_wear ⟨Nat.le_of_ble_eq_true rfl, Nat.le_of_ble_eq_true rfl⟩) ⟨pcW_blind, va_recv hK hPc (ci := 0) (q0 := 0) rfl rfl, (pcW_pre hPc hkn hDc hst hS hFc)⟩ rfl rfl hl.1 rfl (lv_room (Nat.le_of_ble_eq_true rfl)) dX4_work_164 ⟨Nat.le_of_ble_eq_true rfl, Nat.le_of_ble_eq_true rfl⟩) hS (fun q _ h => hFc q h) hFc (fun u t H1 locs ht hvm hw_95 hB hz1 hk1 hS => ?_)
            obtain ⟨u_96, rfl⟩ : ∃ z, z = u := ⟨_, rfl⟩
            obtain ⟨hP1, hD1⟩ := hB
            rw [ht] at hP1
            try dsimp only at hw_95
            obtain ⟨hP, hD⟩ := va_join (wr := [(wy, .inl (E.2.1 0, 8, .inl fy)), (sp, .inl (E.2.1 0, 25, .inl fs_)), (po, .inl (E.2.1 0, 10, .inl fo_)), (se, .inr (8, [.ref wi, .ref po])), (wi, .inl (E.2.1 0, 288, .inl fw)), (ru, .inr (7, [.ref s1, .ref s2, .ref s3, .ref s4, .int sz_])), (s1, .inl (E.2.1 0, 12, .inl r1)), (s2, .inl (E.2.1 1, 12, .inl r2)), (s3, .inl (E.2.1 0, 12, .inl r3)), (s4, .inl (E.2.1 0, 12, .inl r4)), (co, .inr (1, [.ref bx, .int bc, .int lc, .int mf, .int li])), (bx, .inl (E.2.1 0, 72, .inl fx)), (h0, .inr (4, [.ref wy, .int wl_, .int (nI ps), .int sta, .int hp, .int fd, .int pe, .int at_, .int go, .int tu, .int wa, .int ce, .int x_83, .int u_16, .int u_17, .int x_93]))]) (w1 := [(bo_, .inr (0, [.ref sp, .ref pa, .int u_86, .ref ru, .ref co, .ref tr])), (pa, .inl (E.2.1 0, 4, .inl u_96))]) hP hD [14, 5] [0, 1, 2, 3, 4, 6, 7, 8, 9, 10, 11, 12, 13] rfl rfl (by decide) (by decide) hk1 hFc hP1 hD1
            generalize H1 = H at hP hS ⊢
            have hP : va_P E.1 vwCl [(wy, .inl (E.2.1 0, 8, .inl fy)), (sp, .inl (E.2.1 0, 25, .inl fs_)), (po, .inl (E.2.1 0, 10, .inl fo_)), (se, .inr (8, [.ref wi, .ref po])), (wi, .inl (E.2.1 0, 288, .inl fw)), (ru, .inr (7, [.ref s1, .ref s2, .ref s3, .ref s4, .int sz_])), (s1, .inl (E.2.1 0, 12, .inl r1)), (s2, .inl (E.2.1 1, 12, .inl r2)), (s3, .inl (E.2.1 0, 12, .inl r3)), (s4, .inl (E.2.1 0, 12, .inl r4)), (co, .inr (1, [.ref bx, .int bc, .int lc, .int mf, .int li])), (bx, .inl (E.2.1 0, 72, .inl fx)), (h0, .inr (4, [.ref wy, .int wl_, .int (nI ps), .int sta, .int hp, .int fd, .int pe, .int at_, .int go, .int tu, .int wa, .int ce, .int x_83, .int u_16, .int u_17, .int x_93])), (bo_, .inr (0, [.ref sp, .ref pa, .int u_86, .ref ru, .ref co, .ref tr])), (pa, .inl (E.2.1 0, 4, .inl u_96))] H := hP
            have hD : va_D A [(wy, .inl (E.2.1 0, 8, .inl fy)), (sp, .inl (E.2.1 0, 25, .inl fs_)), (po, .inl (E.2.1 0, 10, .inl fo_)), (se, .inr (8, [.ref wi, .ref po])), (wi, .inl (E.2.1 0, 288, .inl fw)), (ru, .inr (7, [.ref s1, .ref s2, .ref s3, .ref s4, .int sz_])), (s1, .inl (E.2.1 0, 12, .inl r1)), (s2, .inl (E.2.1 1, 12, .inl r2)), (s3, .inl (E.2.1 0, 12, .inl r3)), (s4, .inl (E.2.1 0, 12, .inl r4)), (co, .inr (1, [.ref bx, .int bc, .int lc, .int mf, .int li])), (bx, .inl (E.2.1 0, 72, .inl fx)), (h0, .inr (4, [.ref wy, .int wl_, .int (nI ps), .int sta, .int hp, .int fd, .int pe, .int at_, .int go, .int tu, .int wa, .int ce, .int x_83, .int u_16, .int u_17, .int x_93])), (bo_, .inr (0, [.ref sp, .ref pa, .int u_86, .ref ru, .ref co, .ref tr])), (pa, .inl (E.2.1 0, 4, .inl u_96))] := hD
            refine lv_aload_n hx hb dX4_work_167 rfl (lv_at hl 4 rfl) ?_
            refine lv_dup hx hb dX4_work_168 rfl ?_
            refine va_get (D := E.1) (ci := 4) (v := .int wa) (C := RX4) (T := TX4) (N := 16) hx hb hts inX4 hown hK hP 12 rfl rfl 10 (by decide) fl44 (fun _ h9 => h9) rfl dX4_work_169 ?_
            refine lv_iconst (v := 1) hx hb dX4_work_172 (by decide) ?_
            refine lv_iadd hx hb dX4_work_173 ?_
            refine lv_topi (fun x_97 ex_97 => ?_)
            refine va_put (D := E.1) (ci := 4) (v := .int x_97) (ty := .int) (C := RX4) (T := TX4) (N := 16) hx hb hts inX4 tyX4 tyX4_ok nmX4 hown hK hP hD hS 12 rfl rfl 10 (by decide) fl44 (fun _ h9 => h9) rfl (by decide +kernel) rfl rfl (Nat.le_of_ble_eq_true rfl) dX4_work_174 (fun H locs hP hD hS => ?_)
            have hP : va_P E.1 vwCl [(wy, .inl (E.2.1 0, 8, .inl fy)), (sp, .inl (E.2.1 0, 25, .inl fs_)), (po, .inl (E.2.1 0, 10, .inl fo_)), (se, .inr (8, [.ref wi, .ref po])), (wi, .inl (E.2.1 0, 288, .inl fw)), (ru, .inr (7, [.ref s1, .ref s2, .ref s3, .ref s4, .int sz_])), (s1, .inl (E.2.1 0, 12, .inl r1)), (s2, .inl (E.2.1 1, 12, .inl r2)), (s3, .inl (E.2.1 0, 12, .inl r3)), (s4, .inl (E.2.1 0, 12, .inl r4)), (co, .inr (1, [.ref bx, .int bc, .int lc, .int mf, .int li])), (bx, .inl (E.2.1 0, 72, .inl fx)), (h0, .inr (4, [.ref wy, .int wl_, .int (nI ps), .int sta, .int hp, .int fd, .int pe, .int at_, .int go, .int tu, .int x_97, .int ce, .int x_83, .int u_16, .int u_17, .int x_93])), (bo_, .inr (0, [.ref sp, .ref pa, .int u_86, .ref ru, .ref co, .ref tr])), (pa, .inl (E.2.1 0, 4, .inl u_96))] H := hP
            have hD : va_D A [(wy, .inl (E.2.1 0, 8, .inl fy)), (sp, .inl (E.2.1 0, 25, .inl fs_)), (po, .inl (E.2.1 0, 10, .inl fo_)), (se, .inr (8, [.ref wi, .ref po])), (wi, .inl (E.2.1 0, 288, .inl fw)), (ru, .inr (7, [.ref s1, .ref s2, .ref s3, .ref s4, .int sz_])), (s1, .inl (E.2.1 0, 12, .inl r1)), (s2, .inl (E.2.1 1, 12, .inl r2)), (s3, .inl (E.2.1 0, 12, .inl r3)), (s4, .inl (E.2.1 0, 12, .inl r4)), (co, .inr (1, [.ref bx, .int bc, .int lc, .int mf, .int li])), (bx, .inl (E.2.1 0, 72, .inl fx)), (h0, .inr (4, [.ref wy, .int wl_, .int (nI ps), .int sta, .int hp, .int fd, .int pe, .int at_, .int go, .int tu, .int x_97, .int ce, .int x_83, .int u_16, .int u_17, .int x_93])), (bo_, .inr (0, [.ref sp, .ref pa, .int u_86, .ref ru, .ref co, .ref tr])), (pa, .inl (E.2.1 0, 4, .inl u_96))] := hD
            refine lv_iconst (v := 1) hx hb dX4_work_177 (by decide) ?_
            have hP9 := hP.sub (ws' := [(h0, .inr (4, [.ref wy, .int wl_, .int (nI ps), .int sta, .int hp, .int fd, .int pe, .int at_, .int go, .int tu, .int x_97, .int ce, .int x_83, .int u_16, .int u_17, .int x_93])), (wy, .inl (E.2.1 0, 8, .inl fy)), (bo_, .inr (0, [.ref sp, .ref pa, .int u_86, .ref ru, .ref co, .ref tr])), (sp, .inl (E.2.1 0, 25, .inl fs_)), (pa, .inl (E.2.1 0, 4, .inl u_96)), (ru, .inr (7, [.ref s1, .ref s2, .ref s3, .ref s4, .int sz_])), (s1, .inl (E.2.1 0, 12, .inl r1)), (s2, .inl (E.2.1 1, 12, .inl r2)), (s3, .inl (E.2.1 0, 12, .inl r3)), (s4, .inl (E.2.1 0, 12, .inl r4)), (co, .inr (1, [.ref bx, .int bc, .int lc, .int mf, .int li])), (bx, .inl (E.2.1 0, 72, .inl fx)), (se, .inr (8, [.ref wi, .ref po])), (wi, .inl (E.2.1 0, 288, .inl fw)), (po, .inl (E.2.1 0, 10, .inl fo_))]) [12, 0, 13, 1, 14, 5, 6, 7, 8, 9, 10, 11, 3, 4, 2] rfl
            have hD9 := hD.sub (ws' := [(h0, .inr (4, [.ref wy, .int wl_, .int (nI ps), .int sta, .int hp, .int fd, .int pe, .int at_, .int go, .int tu, .int x_97, .int ce, .int x_83, .int u_16, .int u_17, .int x_93])), (wy, .inl (E.2.1 0, 8, .inl fy)), (bo_, .inr (0, [.ref sp, .ref pa, .int u_86, .ref ru, .ref co, .ref tr])), (sp, .inl (E.2.1 0, 25, .inl fs_)), (pa, .inl (E.2.1 0, 4, .inl u_96)), (ru, .inr (7, [.ref s1, .ref s2, .ref s3, .ref s4, .int sz_])), (s1, .inl (E.2.1 0, 12, .inl r1)), (s2, .inl (E.2.1 1, 12, .inl r2)), (s3, .inl (E.2.1 0, 12, .inl r3)), (s4, .inl (E.2.1 0, 12, .inl r4)), (co, .inr (1, [.ref bx, .int bc, .int lc, .int mf, .int li])), (bx, .inl (E.2.1 0, 72, .inl fx)), (se, .inr (8, [.ref wi, .ref po])), (wi, .inl (E.2.1 0, 288, .inl fw)), (po, .inl (E.2.1 0, 10, .inl fo_))]) [12, 0, 13, 1, 14, 5, 6, 7, 8, 9, 10, 11, 3, 4, 2] (by decide) rfl
            exact W.zret (v := 1) hx hb hr (by decide) (fun t ht hW => ⟨⟨1, (ps, wl_, sta, at_, go, tu, x_97, ce, x_83, u_16, u_17, x_93, fy, u_86, u_96), rfl, Or.inr rfl, hps, by rw [ht]; exact hP9, hD9⟩, hS.F ht⟩) hS.2.2 dX4_work_178
      · refine lv_aload_n hx hb dX4_work_103 rfl (lv_at hl 4 rfl) ?_
        refine lv_aload_n hx hb dX4_work_104 rfl (lv_at hl 6 rfl) ?_
        have hPc := hP.sub (ws' := [(h0, .inr (4, [.ref wy, .int wl_, .int (nI ps), .int sta, .int hp, .int fd, .int pe, .int at_, .int go, .int tu, .int wa, .int ce, .int wt, .int u_16, .int u_17, .int dr])), (wy, .inl (E.2.1 0, 8, .inl fy)), (se, .inr (8, [.ref wi, .ref po])), (po, .inl (E.2.1 0, 10, .inl fo_))]) [14, 0, 3, 2] rfl
        have hDc := hD.sub (ws' := [(h0, .inr (4, [.ref wy, .int wl_, .int (nI ps), .int sta, .int hp, .int fd, .int pe, .int at_, .int go, .int tu, .int wa, .int ce, .int wt, .int u_16, .int u_17, .int dr])), (wy, .inl (E.2.1 0, 8, .inl fy)), (se, .inr (8, [.ref wi, .ref po])), (po, .inl (E.2.1 0, 10, .inl fo_))]) [14, 0, 3, 2] (by decide) rfl
        have hFc := va_free (wc := [(h0, .inr (4, [.ref wy, .int wl_, .int (nI ps), .int sta, .int hp, .int fd, .int pe, .int at_, .int go, .int tu, .int wa, .int ce, .int wt, .int u_16, .int u_17, .int dr])), (wy, .inl (E.2.1 0, 8, .inl fy)), (se, .inr (8, [.ref wi, .ref po])), (po, .inl (E.2.1 0, 10, .inl fo_))]) hD hS hA [14, 0, 3, 2] rfl
        refine va_callv (va_runV (As := [.ref se]) (rest := []) ⟨hx, hb, hml, hown, hts⟩ (c_X4_turnHome l E h0 wy ps wl_ sta hp fd pe at_ go tu wa ce wt u_16 u_17 dr fy se wi po fo_ H.size ) (cwV 1 hts gX4_work_X4_turnHome rfl rfl rfl hdV_X4_turnHome ⟨Nat.le_of_ble_eq_true rfl, Nat.le_of_ble_eq_true rfl⟩) ⟨pcW_blind, va_recv hK hPc (ci := 4) (q0 := 0) rfl rfl, (pcW_pre hPc hkn hDc hst hS hFc)⟩ rfl rfl hl.1 rfl (lv_room (Nat.le_of_ble_eq_true rfl)) dX4_work_105 ⟨Nat.le_of_ble_eq_true rfl, Nat.le_of_ble_eq_true rfl⟩) hS (fun q _ h => hFc q h) hFc (fun u t H1 locs ht hvm hw_99 hB hz1 hk1 hS => ?_)
        obtain ⟨u_100, rfl⟩ : ∃ z, z = u := ⟨_, rfl⟩
        obtain ⟨hP1, hD1⟩ := hB
        rw [ht] at hP1
        try dsimp only at hw_99
        obtain ⟨hP, hD⟩ := va_join (wr := [(sp, .inl (E.2.1 0, 25, .inl fs_)), (wi, .inl (E.2.1 0, 288, .inl fw)), (bo_, .inr (0, [.ref sp, .ref pa, .int lt, .ref ru, .ref co, .ref tr])), (pa, .inl (E.2.1 0, 4, .inl fp)), (ru, .inr (7, [.ref s1, .ref s2, .ref s3, .ref s4, .int sz_])), (s1, .inl (E.2.1 0, 12, .inl r1)), (s2, .inl (E.2.1 1, 12, .inl r2)), (s3, .inl (E.2.1 0, 12, .inl r3)), (s4, .inl (E.2.1 0, 12, .inl r4)), (co, .inr (1, [.ref bx, .int bc, .int lc, .int mf, .int li])), (bx, .inl (E.2.1 0, 72, .inl fx))]) (w1 := [(h0, .inr (4, [.ref wy, .int 1, .int 0, .int sta, .int hp, .int fd, .int pe, .int at_, .int go, .int 1, .int wa, .int ce, .int wt, .int u_16, .int u_17, .int dr])), (wy, .inl (E.2.1 0, 8, .inl u_100)), (se, .inr (8, [.ref wi, .ref po])), (po, .inl (E.2.1 0, 10, .inl fo_))]) hP hD [14, 0, 3, 2] [1, 4, 5, 6, 7, 8, 9, 10, 11, 12, 13] rfl rfl (by decide) (by decide) hk1 hFc hP1 hD1
        generalize H1 = H at hP hS ⊢
        have hP : va_P E.1 vwCl [(sp, .inl (E.2.1 0, 25, .inl fs_)), (wi, .inl (E.2.1 0, 288, .inl fw)), (bo_, .inr (0, [.ref sp, .ref pa, .int lt, .ref ru, .ref co, .ref tr])), (pa, .inl (E.2.1 0, 4, .inl fp)), (ru, .inr (7, [.ref s1, .ref s2, .ref s3, .ref s4, .int sz_])), (s1, .inl (E.2.1 0, 12, .inl r1)), (s2, .inl (E.2.1 1, 12, .inl r2)), (s3, .inl (E.2.1 0, 12, .inl r3)), (s4, .inl (E.2.1 0, 12, .inl r4)), (co, .inr (1, [.ref bx, .int bc, .int lc, .int mf, .int li])), (bx, .inl (E.2.1 0, 72, .inl fx)), (h0, .inr (4, [.ref wy, .int 1, .int 0, .int sta, .int hp, .int fd, .int pe, .int at_, .int go, .int 1, .int wa, .int ce, .int wt, .int u_16, .int u_17, .int dr])), (wy, .inl (E.2.1 0, 8, .inl u_100)), (se, .inr (8, [.ref wi, .ref po])), (po, .inl (E.2.1 0, 10, .inl fo_))] H := hP
        have hD : va_D A [(sp, .inl (E.2.1 0, 25, .inl fs_)), (wi, .inl (E.2.1 0, 288, .inl fw)), (bo_, .inr (0, [.ref sp, .ref pa, .int lt, .ref ru, .ref co, .ref tr])), (pa, .inl (E.2.1 0, 4, .inl fp)), (ru, .inr (7, [.ref s1, .ref s2, .ref s3, .ref s4, .int sz_])), (s1, .inl (E.2.1 0, 12, .inl r1)), (s2, .inl (E.2.1 1, 12, .inl r2)), (s3, .inl (E.2.1 0, 12, .inl r3)), (s4, .inl (E.2.1 0, 12, .inl r4)), (co, .inr (1, [.ref bx, .int bc, .int lc, .int mf, .int li])), (bx, .inl (E.2.1 0, 72, .inl fx)), (h0, .inr (4, [.ref wy, .int 1, .int 0, .int sta, .int hp, .int fd, .int pe, .int at_, .int go, .int 1, .int wa, .int ce, .int wt, .int u_16, .int u_17, .int dr])), (wy, .inl (E.2.1 0, 8, .inl u_100)), (se, .inr (8, [.ref wi, .ref po])), (po, .inl (E.2.1 0, 10, .inl fo_))] := hD
        refine lv_iload hx hb dX4_work_108 (lv_at hl 0 rfl) ?_
        refine lv_if_ne (tgt := 126) hx hb dX4_work_110 (by decide) (fun c_101 => ?_) (fun c_101 => ?_)
        · refine lv_aload_n hx hb dX4_work_126 rfl (lv_at hl 4 rfl) ?_
          refine lv_aload_n hx hb dX4_work_127 rfl (lv_at hl 5 rfl) ?_
          refine lv_iload hx hb dX4_work_128 (lv_at hl 2 rfl) ?_
          refine lv_bipush (v := 10) hx hb dX4_work_130 (by decide) ?_
          refine lv_idiv hx hb dX4_work_132 (by decide) ?_
          refine lv_topi (fun x_102 ex_102 => ?_)
          refine lv_iload hx hb dX4_work_133 (lv_at hl 1 rfl) ?_
          have hPc := hP.sub (ws' := [(h0, .inr (4, [.ref wy, .int 1, .int (nI 0), .int sta, .int hp, .int fd, .int pe, .int at_, .int go, .int 1, .int wa, .int ce, .int wt, .int u_16, .int u_17, .int dr])), (wy, .inl (E.2.1 0, 8, .inl u_100)), (bo_, .inr (0, [.ref sp, .ref pa, .int lt, .ref ru, .ref co, .ref tr])), (sp, .inl (E.2.1 0, 25, .inl fs_))]) [11, 12, 2, 0] rfl
          have hDc := hD.sub (ws' := [(h0, .inr (4, [.ref wy, .int 1, .int (nI 0), .int sta, .int hp, .int fd, .int pe, .int at_, .int go, .int 1, .int wa, .int ce, .int wt, .int u_16, .int u_17, .int dr])), (wy, .inl (E.2.1 0, 8, .inl u_100)), (bo_, .inr (0, [.ref sp, .ref pa, .int lt, .ref ru, .ref co, .ref tr])), (sp, .inl (E.2.1 0, 25, .inl fs_))]) [11, 12, 2, 0] (by decide) rfl
          have hFc := va_free (wc := [(h0, .inr (4, [.ref wy, .int 1, .int (nI 0), .int sta, .int hp, .int fd, .int pe, .int at_, .int go, .int 1, .int wa, .int ce, .int wt, .int u_16, .int u_17, .int dr])), (wy, .inl (E.2.1 0, 8, .inl u_100)), (bo_, .inr (0, [.ref sp, .ref pa, .int lt, .ref ru, .ref co, .ref tr])), (sp, .inl (E.2.1 0, 25, .inl fs_))]) hD hS hA [11, 12, 2, 0] rfl
          refine va_callv (va_runV (As := [.ref bo_, .int x_102, .int x_5]) (rest := []) ⟨hx, hb, hml, hown, hts⟩ (c_X4_move l E h0 wy 0 1 sta hp fd pe at_ go 1 wa ce wt u_16 u_17 dr u_100 bo_ sp pa ru co tr lt fs_ x_102 x_5 H.size (by omega)) (cwV 3 hts gX4_work_X4_move rfl rfl rfl hdV_X4_move ⟨Nat.le_of_ble_eq_true rfl, Nat.le_of_ble_eq_true rfl⟩) ⟨pcW_blind, va_recv hK hPc (ci := 4) (q0 := 0) rfl rfl, (pcW_pre hPc hkn hDc hst hS hFc)⟩ rfl rfl hl.1 rfl (lv_room (Nat.le_of_ble_eq_true rfl)) dX4_work_135 ⟨Nat.le_of_ble_eq_true rfl, Nat.le_of_ble_eq_true rfl⟩) hS (fun q _ h => hFc q h) hFc (fun u t H1 locs ht hvm hw_104 hB hz1 hk1 hS => ?_)
          obtain ⟨u_105, u_106, u_107, u_108, u_109⟩ := u
          obtain ⟨hf_110, hP1, hD1⟩ := hB
          rw [ht] at hP1
          try dsimp only at hw_104
          obtain ⟨hP, hD⟩ := va_join (wr := [(wi, .inl (E.2.1 0, 288, .inl fw)), (pa, .inl (E.2.1 0, 4, .inl fp)), (ru, .inr (7, [.ref s1, .ref s2, .ref s3, .ref s4, .int sz_])), (s1, .inl (E.2.1 0, 12, .inl r1)), (s2, .inl (E.2.1 1, 12, .inl r2)), (s3, .inl (E.2.1 0, 12, .inl r3)), (s4, .inl (E.2.1 0, 12, .inl r4)), (co, .inr (1, [.ref bx, .int bc, .int lc, .int mf, .int li])), (bx, .inl (E.2.1 0, 72, .inl fx)), (se, .inr (8, [.ref wi, .ref po])), (po, .inl (E.2.1 0, 10, .inl fo_))]) (w1 := [(h0, .inr (4, [.ref wy, .int 1, .int (nI u_105), .int u_106, .int hp, .int fd, .int pe, .int u_107, .int u_108, .int 1, .int wa, .int u_109, .int wt, .int u_16, .int u_17, .int dr])), (wy, .inl (E.2.1 0, 8, .inl u_100)), (bo_, .inr (0, [.ref sp, .ref pa, .int lt, .ref ru, .ref co, .ref tr])), (sp, .inl (E.2.1 0, 25, .inl fs_))]) hP hD [11, 12, 2, 0] [1, 3, 4, 5, 6, 7, 8, 9, 10, 13, 14] rfl rfl (by decide) (by decide) hk1 hFc hP1 hD1
          generalize H1 = H at hP hS ⊢
          have hP : va_P E.1 vwCl [(wi, .inl (E.2.1 0, 288, .inl fw)), (pa, .inl (E.2.1 0, 4, .inl fp)), (ru, .inr (7, [.ref s1, .ref s2, .ref s3, .ref s4, .int sz_])), (s1, .inl (E.2.1 0, 12, .inl r1)), (s2, .inl (E.2.1 1, 12, .inl r2)), (s3, .inl (E.2.1 0, 12, .inl r3)), (s4, .inl (E.2.1 0, 12, .inl r4)), (co, .inr (1, [.ref bx, .int bc, .int lc, .int mf, .int li])), (bx, .inl (E.2.1 0, 72, .inl fx)), (se, .inr (8, [.ref wi, .ref po])), (po, .inl (E.2.1 0, 10, .inl fo_)), (h0, .inr (4, [.ref wy, .int 1, .int (nI u_105), .int u_106, .int hp, .int fd, .int pe, .int u_107, .int u_108, .int 1, .int wa, .int u_109, .int wt, .int u_16, .int u_17, .int dr])), (wy, .inl (E.2.1 0, 8, .inl u_100)), (bo_, .inr (0, [.ref sp, .ref pa, .int lt, .ref ru, .ref co, .ref tr])), (sp, .inl (E.2.1 0, 25, .inl fs_))] H := hP
          have hD : va_D A [(wi, .inl (E.2.1 0, 288, .inl fw)), (pa, .inl (E.2.1 0, 4, .inl fp)), (ru, .inr (7, [.ref s1, .ref s2, .ref s3, .ref s4, .int sz_])), (s1, .inl (E.2.1 0, 12, .inl r1)), (s2, .inl (E.2.1 1, 12, .inl r2)), (s3, .inl (E.2.1 0, 12, .inl r3)), (s4, .inl (E.2.1 0, 12, .inl r4)), (co, .inr (1, [.ref bx, .int bc, .int lc, .int mf, .int li])), (bx, .inl (E.2.1 0, 72, .inl fx)), (se, .inr (8, [.ref wi, .ref po])), (po, .inl (E.2.1 0, 10, .inl fo_)), (h0, .inr (4, [.ref wy, .int 1, .int (nI u_105), .int u_106, .int hp, .int fd, .int pe, .int u_107, .int u_108, .int 1, .int wa, .int u_109, .int wt, .int u_16, .int u_17, .int dr])), (wy, .inl (E.2.1 0, 8, .inl u_100)), (bo_, .inr (0, [.ref sp, .ref pa, .int lt, .ref ru, .ref co, .ref tr])), (sp, .inl (E.2.1 0, 25, .inl fs_))] := hD
          refine lv_aload_n hx hb dX4_work_138 rfl (lv_at hl 4 rfl) ?_
          refine lv_dup hx hb dX4_work_139 rfl ?_
          refine va_get (D := E.1) (ci := 4) (v := .int dr) (C := RX4) (T := TX4) (N := 16) hx hb hts inX4 hown hK hP 11 rfl rfl 15 (by decide) fl59 (fun _ h9 => h9) rfl dX4_work_140 ?_
          refine lv_aload_n hx hb dX4_work_143 rfl (lv_at hl 5 rfl) ?_
          refine lv_aload_n hx hb dX4_work_144 rfl (lv_at hl 4 rfl) ?_
          refine va_get (D := E.1) (ci := 4) (v := .int pe) (C := RX4) (T := TX4) (N := 16) hx hb hts inX4 hown hK hP 11 rfl rfl 6 (by decide) fl31 (fun _ h9 => h9) rfl dX4_work_145 ?_
          have hPc := hP.sub (ws' := [(bo_, .inr (0, [.ref sp, .ref pa, .int lt, .ref ru, .ref co, .ref tr]))]) [13] rfl
          have hDc := hD.sub (ws' := [(bo_, .inr (0, [.ref sp, .ref pa, .int lt, .ref ru, .ref co, .ref tr]))]) [13] (by decide) rfl
          have hFc := va_free (wc := [(bo_, .inr (0, [.ref sp, .ref pa, .int lt, .ref ru, .ref co, .ref tr]))]) hD hS hA [13] rfl
          refine va_calli (va_runV (As := [.int pe]) (rest := [.int dr, .ref h0]) ⟨hx, hb, hml, hown, hts⟩ (c_X0_drink l E bo_ sp pa ru co tr lt pe H.size ) (cwV 1 hts gX4_work_X0_drink rfl rfl rfl hdV_X0_drink ⟨Nat.le_of_ble_eq_true rfl, Nat.le_of_ble_eq_true rfl⟩) ⟨pcW_blind, va_recv hK hPc (ci := 0) (q0 := 0) rfl rfl, (pcW_pre hPc hkn hDc hst hS hFc)⟩ rfl rfl hl.1 rfl (lv_room (Nat.le_of_ble_eq_true rfl)) dX4_work_148 ⟨Nat.le_of_ble_eq_true rfl, Nat.le_of_ble_eq_true rfl⟩) hS (fun q _ h => hFc q h) hFc (fun r_111 u t H1 locs ht hvm hw_112 hB hz1 hk1 hS => ?_)
          obtain ⟨u_113, rfl⟩ : ∃ z, z = u := ⟨_, rfl⟩
          obtain ⟨hP1, hD1⟩ := hB
          rw [ht] at hP1
          try dsimp only at hw_112
          obtain ⟨hP, hD⟩ := va_join (wr := [(wi, .inl (E.2.1 0, 288, .inl fw)), (pa, .inl (E.2.1 0, 4, .inl fp)), (ru, .inr (7, [.ref s1, .ref s2, .ref s3, .ref s4, .int sz_])), (s1, .inl (E.2.1 0, 12, .inl r1)), (s2, .inl (E.2.1 1, 12, .inl r2)), (s3, .inl (E.2.1 0, 12, .inl r3)), (s4, .inl (E.2.1 0, 12, .inl r4)), (co, .inr (1, [.ref bx, .int bc, .int lc, .int mf, .int li])), (bx, .inl (E.2.1 0, 72, .inl fx)), (se, .inr (8, [.ref wi, .ref po])), (po, .inl (E.2.1 0, 10, .inl fo_)), (h0, .inr (4, [.ref wy, .int 1, .int (nI u_105), .int u_106, .int hp, .int fd, .int pe, .int u_107, .int u_108, .int 1, .int wa, .int u_109, .int wt, .int u_16, .int u_17, .int dr])), (wy, .inl (E.2.1 0, 8, .inl u_100)), (sp, .inl (E.2.1 0, 25, .inl fs_))]) (w1 := [(bo_, .inr (0, [.ref sp, .ref pa, .int u_113, .ref ru, .ref co, .ref tr]))]) hP hD [13] [0, 1, 2, 3, 4, 5, 6, 7, 8, 9, 10, 11, 12, 14] rfl rfl (by decide) (by decide) hk1 hFc hP1 hD1
          generalize H1 = H at hP hS ⊢
          have hP : va_P E.1 vwCl [(wi, .inl (E.2.1 0, 288, .inl fw)), (pa, .inl (E.2.1 0, 4, .inl fp)), (ru, .inr (7, [.ref s1, .ref s2, .ref s3, .ref s4, .int sz_])), (s1, .inl (E.2.1 0, 12, .inl r1)), (s2, .inl (E.2.1 1, 12, .inl r2)), (s3, .inl (E.2.1 0, 12, .inl r3)), (s4, .inl (E.2.1 0, 12, .inl r4)), (co, .inr (1, [.ref bx, .int bc, .int lc, .int mf, .int li])), (bx, .inl (E.2.1 0, 72, .inl fx)), (se, .inr (8, [.ref wi, .ref po])), (po, .inl (E.2.1 0, 10, .inl fo_)), (h0, .inr (4, [.ref wy, .int 1, .int (nI u_105), .int u_106, .int hp, .int fd, .int pe, .int u_107, .int u_108, .int 1, .int wa, .int u_109, .int wt, .int u_16, .int u_17, .int dr])), (wy, .inl (E.2.1 0, 8, .inl u_100)), (sp, .inl (E.2.1 0, 25, .inl fs_)), (bo_, .inr (0, [.ref sp, .ref pa, .int u_113, .ref ru, .ref co, .ref tr]))] H := hP
          have hD : va_D A [(wi, .inl (E.2.1 0, 288, .inl fw)), (pa, .inl (E.2.1 0, 4, .inl fp)), (ru, .inr (7, [.ref s1, .ref s2, .ref s3, .ref s4, .int sz_])), (s1, .inl (E.2.1 0, 12, .inl r1)), (s2, .inl (E.2.1 1, 12, .inl r2)), (s3, .inl (E.2.1 0, 12, .inl r3)), (s4, .inl (E.2.1 0, 12, .inl r4)), (co, .inr (1, [.ref bx, .int bc, .int lc, .int mf, .int li])), (bx, .inl (E.2.1 0, 72, .inl fx)), (se, .inr (8, [.ref wi, .ref po])), (po, .inl (E.2.1 0, 10, .inl fo_)), (h0, .inr (4, [.ref wy, .int 1, .int (nI u_105), .int u_106, .int hp, .int fd, .int pe, .int u_107, .int u_108, .int 1, .int wa, .int u_109, .int wt, .int u_16, .int u_17, .int dr])), (wy, .inl (E.2.1 0, 8, .inl u_100)), (sp, .inl (E.2.1 0, 25, .inl fs_)), (bo_, .inr (0, [.ref sp, .ref pa, .int u_113, .ref ru, .ref co, .ref tr]))] := hD
          refine lv_if_eq (tgt := 158) hx hb dX4_work_151 (by decide) (fun c_114 => ?_) (fun c_114 => ?_)
          · refine lv_iconst (v := 1) hx hb dX4_work_158 (by decide) ?_
            refine lv_iadd hx hb dX4_work_159 ?_
            refine lv_topi (fun x_115 ex_115 => ?_)
            refine va_put (D := E.1) (ci := 4) (v := .int x_115) (ty := .int) (C := RX4) (T := TX4) (N := 16) hx hb hts inX4 tyX4 tyX4_ok nmX4 hown hK hP hD hS 11 rfl rfl 15 (by decide) fl59 (fun _ h9 => h9) rfl (by decide +kernel) rfl rfl (Nat.le_of_ble_eq_true rfl) dX4_work_160 (fun H locs hP hD hS => ?_)
            have hP : va_P E.1 vwCl [(wi, .inl (E.2.1 0, 288, .inl fw)), (pa, .inl (E.2.1 0, 4, .inl fp)), (ru, .inr (7, [.ref s1, .ref s2, .ref s3, .ref s4, .int sz_])), (s1, .inl (E.2.1 0, 12, .inl r1)), (s2, .inl (E.2.1 1, 12, .inl r2)), (s3, .inl (E.2.1 0, 12, .inl r3)), (s4, .inl (E.2.1 0, 12, .inl r4)), (co, .inr (1, [.ref bx, .int bc, .int lc, .int mf, .int li])), (bx, .inl (E.2.1 0, 72, .inl fx)), (se, .inr (8, [.ref wi, .ref po])), (po, .inl (E.2.1 0, 10, .inl fo_)), (h0, .inr (4, [.ref wy, .int 1, .int (nI u_105), .int u_106, .int hp, .int fd, .int pe, .int u_107, .int u_108, .int 1, .int wa, .int u_109, .int wt, .int u_16, .int u_17, .int x_115])), (wy, .inl (E.2.1 0, 8, .inl u_100)), (sp, .inl (E.2.1 0, 25, .inl fs_)), (bo_, .inr (0, [.ref sp, .ref pa, .int u_113, .ref ru, .ref co, .ref tr]))] H := hP
            have hD : va_D A [(wi, .inl (E.2.1 0, 288, .inl fw)), (pa, .inl (E.2.1 0, 4, .inl fp)), (ru, .inr (7, [.ref s1, .ref s2, .ref s3, .ref s4, .int sz_])), (s1, .inl (E.2.1 0, 12, .inl r1)), (s2, .inl (E.2.1 1, 12, .inl r2)), (s3, .inl (E.2.1 0, 12, .inl r3)), (s4, .inl (E.2.1 0, 12, .inl r4)), (co, .inr (1, [.ref bx, .int bc, .int lc, .int mf, .int li])), (bx, .inl (E.2.1 0, 72, .inl fx)), (se, .inr (8, [.ref wi, .ref po])), (po, .inl (E.2.1 0, 10, .inl fo_)), (h0, .inr (4, [.ref wy, .int 1, .int (nI u_105), .int u_106, .int hp, .int fd, .int pe, .int u_107, .int u_108, .int 1, .int wa, .int u_109, .int wt, .int u_16, .int u_17, .int x_115])), (wy, .inl (E.2.1 0, 8, .inl u_100)), (sp, .inl (E.2.1 0, 25, .inl fs_)), (bo_, .inr (0, [.ref sp, .ref pa, .int u_113, .ref ru, .ref co, .ref tr]))] := hD
            refine lv_aload_n hx hb dX4_work_163 rfl (lv_at hl 5 rfl) ?_
            have hPc := hP.sub (ws' := [(bo_, .inr (0, [.ref sp, .ref pa, .int u_113, .ref ru, .ref co, .ref tr])), (pa, .inl (E.2.1 0, 4, .inl fp))]) [14, 1] rfl
            have hDc := hD.sub (ws' := [(bo_, .inr (0, [.ref sp, .ref pa, .int u_113, .ref ru, .ref co, .ref tr])), (pa, .inl (E.2.1 0, 4, .inl fp))]) [14, 1] (by decide) rfl
            have hFc := va_free (wc := [(bo_, .inr (0, [.ref sp, .ref pa, .int u_113, .ref ru, .ref co, .ref tr])), (pa, .inl (E.2.1 0, 4, .inl fp))]) hD hS hA [14, 1] rfl
            refine va_callv (va_runV (As := []) (rest := []) ⟨hx, hb, hml, hown, hts⟩ (c_X0_wear l E bo_ sp pa ru co tr u_113 fp H.size ) (cwV 0 hts gX4_work_X0_wear rfl rfl rfl hdV_X0_wear ⟨Nat.le_of_ble_eq_true rfl, Nat.le_of_ble_eq_true rfl⟩) ⟨pcW_blind, va_recv hK hPc (ci := 0) (q0 := 0) rfl rfl, (pcW_pre hPc hkn hDc hst hS hFc)⟩ rfl rfl hl.1 rfl (lv_room (Nat.le_of_ble_eq_true rfl)) dX4_work_164 ⟨Nat.le_of_ble_eq_true rfl, Nat.le_of_ble_eq_true rfl⟩) hS (fun q _ h => hFc q h) hFc (fun u t H1 locs ht hvm hw_117 hB hz1 hk1 hS => ?_)
            obtain ⟨u_118, rfl⟩ : ∃ z, z = u := ⟨_, rfl⟩
            obtain ⟨hP1, hD1⟩ := hB
            rw [ht] at hP1
            try dsimp only at hw_117
            obtain ⟨hP, hD⟩ := va_join (wr := [(wi, .inl (E.2.1 0, 288, .inl fw)), (ru, .inr (7, [.ref s1, .ref s2, .ref s3, .ref s4, .int sz_])), (s1, .inl (E.2.1 0, 12, .inl r1)), (s2, .inl (E.2.1 1, 12, .inl r2)), (s3, .inl (E.2.1 0, 12, .inl r3)), (s4, .inl (E.2.1 0, 12, .inl r4)), (co, .inr (1, [.ref bx, .int bc, .int lc, .int mf, .int li])), (bx, .inl (E.2.1 0, 72, .inl fx)), (se, .inr (8, [.ref wi, .ref po])), (po, .inl (E.2.1 0, 10, .inl fo_)), (h0, .inr (4, [.ref wy, .int 1, .int (nI u_105), .int u_106, .int hp, .int fd, .int pe, .int u_107, .int u_108, .int 1, .int wa, .int u_109, .int wt, .int u_16, .int u_17, .int x_115])), (wy, .inl (E.2.1 0, 8, .inl u_100)), (sp, .inl (E.2.1 0, 25, .inl fs_))]) (w1 := [(bo_, .inr (0, [.ref sp, .ref pa, .int u_113, .ref ru, .ref co, .ref tr])), (pa, .inl (E.2.1 0, 4, .inl u_118))]) hP hD [14, 1] [0, 2, 3, 4, 5, 6, 7, 8, 9, 10, 11, 12, 13] rfl rfl (by decide) (by decide) hk1 hFc hP1 hD1
            generalize H1 = H at hP hS ⊢
            have hP : va_P E.1 vwCl [(wi, .inl (E.2.1 0, 288, .inl fw)), (ru, .inr (7, [.ref s1, .ref s2, .ref s3, .ref s4, .int sz_])), (s1, .inl (E.2.1 0, 12, .inl r1)), (s2, .inl (E.2.1 1, 12, .inl r2)), (s3, .inl (E.2.1 0, 12, .inl r3)), (s4, .inl (E.2.1 0, 12, .inl r4)), (co, .inr (1, [.ref bx, .int bc, .int lc, .int mf, .int li])), (bx, .inl (E.2.1 0, 72, .inl fx)), (se, .inr (8, [.ref wi, .ref po])), (po, .inl (E.2.1 0, 10, .inl fo_)), (h0, .inr (4, [.ref wy, .int 1, .int (nI u_105), .int u_106, .int hp, .int fd, .int pe, .int u_107, .int u_108, .int 1, .int wa, .int u_109, .int wt, .int u_16, .int u_17, .int x_115])), (wy, .inl (E.2.1 0, 8, .inl u_100)), (sp, .inl (E.2.1 0, 25, .inl fs_)), (bo_, .inr (0, [.ref sp, .ref pa, .int u_113, .ref ru, .ref co, .ref tr])), (pa, .inl (E.2.1 0, 4, .inl u_118))] H := hP
            have hD : va_D A [(wi, .inl (E.2.1 0, 288, .inl fw)), (ru, .inr (7, [.ref s1, .ref s2, .ref s3, .ref s4, .int sz_])), (s1, .inl (E.2.1 0, 12, .inl r1)), (s2, .inl (E.2.1 1, 12, .inl r2)), (s3, .inl (E.2.1 0, 12, .inl r3)), (s4, .inl (E.2.1 0, 12, .inl r4)), (co, .inr (1, [.ref bx, .int bc, .int lc, .int mf, .int li])), (bx, .inl (E.2.1 0, 72, .inl fx)), (se, .inr (8, [.ref wi, .ref po])), (po, .inl (E.2.1 0, 10, .inl fo_)), (h0, .inr (4, [.ref wy, .int 1, .int (nI u_105), .int u_106, .int hp, .int fd, .int pe, .int u_107, .int u_108, .int 1, .int wa, .int u_109, .int wt, .int u_16, .int u_17, .int x_115])), (wy, .inl (E.2.1 0, 8, .inl u_100)), (sp, .inl (E.2.1 0, 25, .inl fs_)), (bo_, .inr (0, [.ref sp, .ref pa, .int u_113, .ref ru, .ref co, .ref tr])), (pa, .inl (E.2.1 0, 4, .inl u_118))] := hD
            refine lv_aload_n hx hb dX4_work_167 rfl (lv_at hl 4 rfl) ?_
            refine lv_dup hx hb dX4_work_168 rfl ?_
            refine va_get (D := E.1) (ci := 4) (v := .int wa) (C := RX4) (T := TX4) (N := 16) hx hb hts inX4 hown hK hP 10 rfl rfl 10 (by decide) fl44 (fun _ h9 => h9) rfl dX4_work_169 ?_
            refine lv_iconst (v := 1) hx hb dX4_work_172 (by decide) ?_
            refine lv_iadd hx hb dX4_work_173 ?_
            refine lv_topi (fun x_119 ex_119 => ?_)
            refine va_put (D := E.1) (ci := 4) (v := .int x_119) (ty := .int) (C := RX4) (T := TX4) (N := 16) hx hb hts inX4 tyX4 tyX4_ok nmX4 hown hK hP hD hS 10 rfl rfl 10 (by decide) fl44 (fun _ h9 => h9) rfl (by decide +kernel) rfl rfl (Nat.le_of_ble_eq_true rfl) dX4_work_174 (fun H locs hP hD hS => ?_)
            have hP : va_P E.1 vwCl [(wi, .inl (E.2.1 0, 288, .inl fw)), (ru, .inr (7, [.ref s1, .ref s2, .ref s3, .ref s4, .int sz_])), (s1, .inl (E.2.1 0, 12, .inl r1)), (s2, .inl (E.2.1 1, 12, .inl r2)), (s3, .inl (E.2.1 0, 12, .inl r3)), (s4, .inl (E.2.1 0, 12, .inl r4)), (co, .inr (1, [.ref bx, .int bc, .int lc, .int mf, .int li])), (bx, .inl (E.2.1 0, 72, .inl fx)), (se, .inr (8, [.ref wi, .ref po])), (po, .inl (E.2.1 0, 10, .inl fo_)), (h0, .inr (4, [.ref wy, .int 1, .int (nI u_105), .int u_106, .int hp, .int fd, .int pe, .int u_107, .int u_108, .int 1, .int x_119, .int u_109, .int wt, .int u_16, .int u_17, .int x_115])), (wy, .inl (E.2.1 0, 8, .inl u_100)), (sp, .inl (E.2.1 0, 25, .inl fs_)), (bo_, .inr (0, [.ref sp, .ref pa, .int u_113, .ref ru, .ref co, .ref tr])), (pa, .inl (E.2.1 0, 4, .inl u_118))] H := hP
            have hD : va_D A [(wi, .inl (E.2.1 0, 288, .inl fw)), (ru, .inr (7, [.ref s1, .ref s2, .ref s3, .ref s4, .int sz_])), (s1, .inl (E.2.1 0, 12, .inl r1)), (s2, .inl (E.2.1 1, 12, .inl r2)), (s3, .inl (E.2.1 0, 12, .inl r3)), (s4, .inl (E.2.1 0, 12, .inl r4)), (co, .inr (1, [.ref bx, .int bc, .int lc, .int mf, .int li])), (bx, .inl (E.2.1 0, 72, .inl fx)), (se, .inr (8, [.ref wi, .ref po])), (po, .inl (E.2.1 0, 10, .inl fo_)), (h0, .inr (4, [.ref wy, .int 1, .int (nI u_105), .int u_106, .int hp, .int fd, .int pe, .int u_107, .int u_108, .int 1, .int x_119, .int u_109, .int wt, .int u_16, .int u_17, .int x_115])), (wy, .inl (E.2.1 0, 8, .inl u_100)), (sp, .inl (E.2.1 0, 25, .inl fs_)), (bo_, .inr (0, [.ref sp, .ref pa, .int u_113, .ref ru, .ref co, .ref tr])), (pa, .inl (E.2.1 0, 4, .inl u_118))] := hD
            refine lv_iconst (v := 1) hx hb dX4_work_177 (by decide) ?_
            have hP9 := hP.sub (ws' := [(h0, .inr (4, [.ref wy, .int 1, .int (nI u_105), .int u_106, .int hp, .int fd, .int pe, .int u_107, .int u_108, .int 1, .int x_119, .int u_109, .int wt, .int u_16, .int u_17, .int x_115])), (wy, .inl (E.2.1 0, 8, .inl u_100)), (bo_, .inr (0, [.ref sp, .ref pa, .int u_113, .ref ru, .ref co, .ref tr])), (sp, .inl (E.2.1 0, 25, .inl fs_)), (pa, .inl (E.2.1 0, 4, .inl u_118)), (ru, .inr (7, [.ref s1, .ref s2, .ref s3, .ref s4, .int sz_])), (s1, .inl (E.2.1 0, 12, .inl r1)), (s2, .inl (E.2.1 1, 12, .inl r2)), (s3, .inl (E.2.1 0, 12, .inl r3)), (s4, .inl (E.2.1 0, 12, .inl r4)), (co, .inr (1, [.ref bx, .int bc, .int lc, .int mf, .int li])), (bx, .inl (E.2.1 0, 72, .inl fx)), (se, .inr (8, [.ref wi, .ref po])), (wi, .inl (E.2.1 0, 288, .inl fw)), (po, .inl (E.2.1 0, 10, .inl fo_))]) [10, 11, 13, 12, 14, 1, 2, 3, 4, 5, 6, 7, 8, 0, 9] rfl
            have hD9 := hD.sub (ws' := [(h0, .inr (4, [.ref wy, .int 1, .int (nI u_105), .int u_106, .int hp, .int fd, .int pe, .int u_107, .int u_108, .int 1, .int x_119, .int u_109, .int wt, .int u_16, .int u_17, .int x_115])), (wy, .inl (E.2.1 0, 8, .inl u_100)), (bo_, .inr (0, [.ref sp, .ref pa, .int u_113, .ref ru, .ref co, .ref tr])), (sp, .inl (E.2.1 0, 25, .inl fs_)), (pa, .inl (E.2.1 0, 4, .inl u_118)), (ru, .inr (7, [.ref s1, .ref s2, .ref s3, .ref s4, .int sz_])), (s1, .inl (E.2.1 0, 12, .inl r1)), (s2, .inl (E.2.1 1, 12, .inl r2)), (s3, .inl (E.2.1 0, 12, .inl r3)), (s4, .inl (E.2.1 0, 12, .inl r4)), (co, .inr (1, [.ref bx, .int bc, .int lc, .int mf, .int li])), (bx, .inl (E.2.1 0, 72, .inl fx)), (se, .inr (8, [.ref wi, .ref po])), (wi, .inl (E.2.1 0, 288, .inl fw)), (po, .inl (E.2.1 0, 10, .inl fo_))]) [10, 11, 13, 12, 14, 1, 2, 3, 4, 5, 6, 7, 8, 0, 9] (by decide) rfl
            exact W.zret (v := 1) hx hb hr (by decide) (fun t ht hW => ⟨⟨1, (u_105, 1, u_106, u_107, u_108, 1, x_119, u_109, wt, u_16, u_17, x_115, u_100, u_113, u_118), rfl, Or.inr rfl, hf_110, by rw [ht]; exact hP9, hD9⟩, hS.F ht⟩) hS.2.2 dX4_work_178
          · refine lv_iconst (v := 0) hx hb dX4_work_154 (by decide) ?_
            refine lv_goto (tgt := 159) hx hb dX4_work_155 (by decide) ?_
            refine lv_iadd hx hb dX4_work_159 ?_
            refine lv_topi (fun x_120 ex_120 => ?_)
            refine va_put (D := E.1) (ci := 4) (v := .int x_120) (ty := .int) (C := RX4) (T := TX4) (N := 16) hx hb hts inX4 tyX4 tyX4_ok nmX4 hown hK hP hD hS 11 rfl rfl 15 (by decide) fl59 (fun _ h9 => h9) rfl (by decide +kernel) rfl rfl (Nat.le_of_ble_eq_true rfl) dX4_work_160 (fun H locs hP hD hS => ?_)
            have hP : va_P E.1 vwCl [(wi, .inl (E.2.1 0, 288, .inl fw)), (pa, .inl (E.2.1 0, 4, .inl fp)), (ru, .inr (7, [.ref s1, .ref s2, .ref s3, .ref s4, .int sz_])), (s1, .inl (E.2.1 0, 12, .inl r1)), (s2, .inl (E.2.1 1, 12, .inl r2)), (s3, .inl (E.2.1 0, 12, .inl r3)), (s4, .inl (E.2.1 0, 12, .inl r4)), (co, .inr (1, [.ref bx, .int bc, .int lc, .int mf, .int li])), (bx, .inl (E.2.1 0, 72, .inl fx)), (se, .inr (8, [.ref wi, .ref po])), (po, .inl (E.2.1 0, 10, .inl fo_)), (h0, .inr (4, [.ref wy, .int 1, .int (nI u_105), .int u_106, .int hp, .int fd, .int pe, .int u_107, .int u_108, .int 1, .int wa, .int u_109, .int wt, .int u_16, .int u_17, .int x_120])), (wy, .inl (E.2.1 0, 8, .inl u_100)), (sp, .inl (E.2.1 0, 25, .inl fs_)), (bo_, .inr (0, [.ref sp, .ref pa, .int u_113, .ref ru, .ref co, .ref tr]))] H := hP
            have hD : va_D A [(wi, .inl (E.2.1 0, 288, .inl fw)), (pa, .inl (E.2.1 0, 4, .inl fp)), (ru, .inr (7, [.ref s1, .ref s2, .ref s3, .ref s4, .int sz_])), (s1, .inl (E.2.1 0, 12, .inl r1)), (s2, .inl (E.2.1 1, 12, .inl r2)), (s3, .inl (E.2.1 0, 12, .inl r3)), (s4, .inl (E.2.1 0, 12, .inl r4)), (co, .inr (1, [.ref bx, .int bc, .int lc, .int mf, .int li])), (bx, .inl (E.2.1 0, 72, .inl fx)), (se, .inr (8, [.ref wi, .ref po])), (po, .inl (E.2.1 0, 10, .inl fo_)), (h0, .inr (4, [.ref wy, .int 1, .int (nI u_105), .int u_106, .int hp, .int fd, .int pe, .int u_107, .int u_108, .int 1, .int wa, .int u_109, .int wt, .int u_16, .int u_17, .int x_120])), (wy, .inl (E.2.1 0, 8, .inl u_100)), (sp, .inl (E.2.1 0, 25, .inl fs_)), (bo_, .inr (0, [.ref sp, .ref pa, .int u_113, .ref ru, .ref co, .ref tr]))] := hD
            refine lv_aload_n hx hb dX4_work_163 rfl (lv_at hl 5 rfl) ?_
            have hPc := hP.sub (ws' := [(bo_, .inr (0, [.ref sp, .ref pa, .int u_113, .ref ru, .ref co, .ref tr])), (pa, .inl (E.2.1 0, 4, .inl fp))]) [14, 1] rfl
            have hDc := hD.sub (ws' := [(bo_, .inr (0, [.ref sp, .ref pa, .int u_113, .ref ru, .ref co, .ref tr])), (pa, .inl (E.2.1 0, 4, .inl fp))]) [14, 1] (by decide) rfl
            have hFc := va_free (wc := [(bo_, .inr (0, [.ref sp, .ref pa, .int u_113, .ref ru, .ref co, .ref tr])), (pa, .inl (E.2.1 0, 4, .inl fp))]) hD hS hA [14, 1] rfl
            refine va_callv (va_runV (As := []) (rest := []) ⟨hx, hb, hml, hown, hts⟩ (c_X0_wear l E bo_ sp pa ru co tr u_113 fp H.size ) (cwV 0 hts gX4_work_X0_wear rfl rfl rfl hdV_X0_wear ⟨Nat.le_of_ble_eq_true rfl, Nat.le_of_ble_eq_true rfl⟩) ⟨pcW_blind, va_recv hK hPc (ci := 0) (q0 := 0) rfl rfl, (pcW_pre hPc hkn hDc hst hS hFc)⟩ rfl rfl hl.1 rfl (lv_room (Nat.le_of_ble_eq_true rfl)) dX4_work_164 ⟨Nat.le_of_ble_eq_true rfl, Nat.le_of_ble_eq_true rfl⟩) hS (fun q _ h => hFc q h) hFc (fun u t H1 locs ht hvm hw_122 hB hz1 hk1 hS => ?_)
            obtain ⟨u_123, rfl⟩ : ∃ z, z = u := ⟨_, rfl⟩
            obtain ⟨hP1, hD1⟩ := hB
            rw [ht] at hP1
            try dsimp only at hw_122
            obtain ⟨hP, hD⟩ := va_join (wr := [(wi, .inl (E.2.1 0, 288, .inl fw)), (ru, .inr (7, [.ref s1, .ref s2, .ref s3, .ref s4, .int sz_])), (s1, .inl (E.2.1 0, 12, .inl r1)), (s2, .inl (E.2.1 1, 12, .inl r2)), (s3, .inl (E.2.1 0, 12, .inl r3)), (s4, .inl (E.2.1 0, 12, .inl r4)), (co, .inr (1, [.ref bx, .int bc, .int lc, .int mf, .int li])), (bx, .inl (E.2.1 0, 72, .inl fx)), (se, .inr (8, [.ref wi, .ref po])), (po, .inl (E.2.1 0, 10, .inl fo_)), (h0, .inr (4, [.ref wy, .int 1, .int (nI u_105), .int u_106, .int hp, .int fd, .int pe, .int u_107, .int u_108, .int 1, .int wa, .int u_109, .int wt, .int u_16, .int u_17, .int x_120])), (wy, .inl (E.2.1 0, 8, .inl u_100)), (sp, .inl (E.2.1 0, 25, .inl fs_))]) (w1 := [(bo_, .inr (0, [.ref sp, .ref pa, .int u_113, .ref ru, .ref co, .ref tr])), (pa, .inl (E.2.1 0, 4, .inl u_123))]) hP hD [14, 1] [0, 2, 3, 4, 5, 6, 7, 8, 9, 10, 11, 12, 13] rfl rfl (by decide) (by decide) hk1 hFc hP1 hD1
            generalize H1 = H at hP hS ⊢
            have hP : va_P E.1 vwCl [(wi, .inl (E.2.1 0, 288, .inl fw)), (ru, .inr (7, [.ref s1, .ref s2, .ref s3, .ref s4, .int sz_])), (s1, .inl (E.2.1 0, 12, .inl r1)), (s2, .inl (E.2.1 1, 12, .inl r2)), (s3, .inl (E.2.1 0, 12, .inl r3)), (s4, .inl (E.2.1 0, 12, .inl r4)), (co, .inr (1, [.ref bx, .int bc, .int lc, .int mf, .int li])), (bx, .inl (E.2.1 0, 72, .inl fx)), (se, .inr (8, [.ref wi, .ref po])), (po, .inl (E.2.1 0, 10, .inl fo_)), (h0, .inr (4, [.ref wy, .int 1, .int (nI u_105), .int u_106, .int hp, .int fd, .int pe, .int u_107, .int u_108, .int 1, .int wa, .int u_109, .int wt, .int u_16, .int u_17, .int x_120])), (wy, .inl (E.2.1 0, 8, .inl u_100)), (sp, .inl (E.2.1 0, 25, .inl fs_)), (bo_, .inr (0, [.ref sp, .ref pa, .int u_113, .ref ru, .ref co, .ref tr])), (pa, .inl (E.2.1 0, 4, .inl u_123))] H := hP
            have hD : va_D A [(wi, .inl (E.2.1 0, 288, .inl fw)), (ru, .inr (7, [.ref s1, .ref s2, .ref s3, .ref s4, .int sz_])), (s1, .inl (E.2.1 0, 12, .inl r1)), (s2, .inl (E.2.1 1, 12, .inl r2)), (s3, .inl (E.2.1 0, 12, .inl r3)), (s4, .inl (E.2.1 0, 12, .inl r4)), (co, .inr (1, [.ref bx, .int bc, .int lc, .int mf, .int li])), (bx, .inl (E.2.1 0, 72, .inl fx)), (se, .inr (8, [.ref wi, .ref po])), (po, .inl (E.2.1 0, 10, .inl fo_)), (h0, .inr (4, [.ref wy, .int 1, .int (nI u_105), .int u_106, .int hp, .int fd, .int pe, .int u_107, .int u_108, .int 1, .int wa, .int u_109, .int wt, .int u_16, .int u_17, .int x_120])), (wy, .inl (E.2.1 0, 8, .inl u_100)), (sp, .inl (E.2.1 0, 25, .inl fs_)), (bo_, .inr (0, [.ref sp, .ref pa, .int u_113, .ref ru, .ref co, .ref tr])), (pa, .inl (E.2.1 0, 4, .inl u_123))] := hD
            refine lv_aload_n hx hb dX4_work_167 rfl (lv_at hl 4 rfl) ?_
            refine lv_dup hx hb dX4_work_168 rfl ?_
            refine va_get (D := E.1) (ci := 4) (v := .int wa) (C := RX4) (T := TX4) (N := 16) hx hb hts inX4 hown hK hP 10 rfl rfl 10 (by decide) fl44 (fun _ h9 => h9) rfl dX4_work_169 ?_
            refine lv_iconst (v := 1) hx hb dX4_work_172 (by decide) ?_
            refine lv_iadd hx hb dX4_work_173 ?_
            refine lv_topi (fun x_124 ex_124 => ?_)
            refine va_put (D := E.1) (ci := 4) (v := .int x_124) (ty := .int) (C := RX4) (T := TX4) (N := 16) hx hb hts inX4 tyX4 tyX4_ok nmX4 hown hK hP hD hS 10 rfl rfl 10 (by decide) fl44 (fun _ h9 => h9) rfl (by decide +kernel) rfl rfl (Nat.le_of_ble_eq_true rfl) dX4_work_174 (fun H locs hP hD hS => ?_)
            have hP : va_P E.1 vwCl [(wi, .inl (E.2.1 0, 288, .inl fw)), (ru, .inr (7, [.ref s1, .ref s2, .ref s3, .ref s4, .int sz_])), (s1, .inl (E.2.1 0, 12, .inl r1)), (s2, .inl (E.2.1 1, 12, .inl r2)), (s3, .inl (E.2.1 0, 12, .inl r3)), (s4, .inl (E.2.1 0, 12, .inl r4)), (co, .inr (1, [.ref bx, .int bc, .int lc, .int mf, .int li])), (bx, .inl (E.2.1 0, 72, .inl fx)), (se, .inr (8, [.ref wi, .ref po])), (po, .inl (E.2.1 0, 10, .inl fo_)), (h0, .inr (4, [.ref wy, .int 1, .int (nI u_105), .int u_106, .int hp, .int fd, .int pe, .int u_107, .int u_108, .int 1, .int x_124, .int u_109, .int wt, .int u_16, .int u_17, .int x_120])), (wy, .inl (E.2.1 0, 8, .inl u_100)), (sp, .inl (E.2.1 0, 25, .inl fs_)), (bo_, .inr (0, [.ref sp, .ref pa, .int u_113, .ref ru, .ref co, .ref tr])), (pa, .inl (E.2.1 0, 4, .inl u_123))] H := hP
            have hD : va_D A [(wi, .inl (E.2.1 0, 288, .inl fw)), (ru, .inr (7, [.ref s1, .ref s2, .ref s3, .ref s4, .int sz_])), (s1, .inl (E.2.1 0, 12, .inl r1)), (s2, .inl (E.2.1 1, 12, .inl r2)), (s3, .inl (E.2.1 0, 12, .inl r3)), (s4, .inl (E.2.1 0, 12, .inl r4)), (co, .inr (1, [.ref bx, .int bc, .int lc, .int mf, .int li])), (bx, .inl (E.2.1 0, 72, .inl fx)), (se, .inr (8, [.ref wi, .ref po])), (po, .inl (E.2.1 0, 10, .inl fo_)), (h0, .inr (4, [.ref wy, .int 1, .int (nI u_105), .int u_106, .int hp, .int fd, .int pe, .int u_107, .int u_108, .int 1, .int x_124, .int u_109, .int wt, .int u_16, .int u_17, .int x_120])), (wy, .inl (E.2.1 0, 8, .inl u_100)), (sp, .inl (E.2.1 0, 25, .inl fs_)), (bo_, .inr (0, [.ref sp, .ref pa, .int u_113, .ref ru, .ref co, .ref tr])), (pa, .inl (E.2.1 0, 4, .inl u_123))] := hD
            refine lv_iconst (v := 1) hx hb dX4_work_177 (by decide) ?_
            have hP9 := hP.sub (ws' := [(h0, .inr (4, [.ref wy, .int 1, .int (nI u_105), .int u_106, .int hp, .int fd, .int pe, .int u_107, .int u_108, .int 1, .int x_124, .int u_109, .int wt, .int u_16, .int u_17, .int x_120])), (wy, .inl (E.2.1 0, 8, .inl u_100)), (bo_, .inr (0, [.ref sp, .ref pa, .int u_113, .ref ru, .ref co, .ref tr])), (sp, .inl (E.2.1 0, 25, .inl fs_)), (pa, .inl (E.2.1 0, 4, .inl u_123)), (ru, .inr (7, [.ref s1, .ref s2, .ref s3, .ref s4, .int sz_])), (s1, .inl (E.2.1 0, 12, .inl r1)), (s2, .inl (E.2.1 1, 12, .inl r2)), (s3, .inl (E.2.1 0, 12, .inl r3)), (s4, .inl (E.2.1 0, 12, .inl r4)), (co, .inr (1, [.ref bx, .int bc, .int lc, .int mf, .int li])), (bx, .inl (E.2.1 0, 72, .inl fx)), (se, .inr (8, [.ref wi, .ref po])), (wi, .inl (E.2.1 0, 288, .inl fw)), (po, .inl (E.2.1 0, 10, .inl fo_))]) [10, 11, 13, 12, 14, 1, 2, 3, 4, 5, 6, 7, 8, 0, 9] rfl
            have hD9 := hD.sub (ws' := [(h0, .inr (4, [.ref wy, .int 1, .int (nI u_105), .int u_106, .int hp, .int fd, .int pe, .int u_107, .int u_108, .int 1, .int x_124, .int u_109, .int wt, .int u_16, .int u_17, .int x_120])), (wy, .inl (E.2.1 0, 8, .inl u_100)), (bo_, .inr (0, [.ref sp, .ref pa, .int u_113, .ref ru, .ref co, .ref tr])), (sp, .inl (E.2.1 0, 25, .inl fs_)), (pa, .inl (E.2.1 0, 4, .inl u_123)), (ru, .inr (7, [.ref s1, .ref s2, .ref s3, .ref s4, .int sz_])), (s1, .inl (E.2.1 0, 12, .inl r1)), (s2, .inl (E.2.1 1, 12, .inl r2)), (s3, .inl (E.2.1 0, 12, .inl r3)), (s4, .inl (E.2.1 0, 12, .inl r4)), (co, .inr (1, [.ref bx, .int bc, .int lc, .int mf, .int li])), (bx, .inl (E.2.1 0, 72, .inl fx)), (se, .inr (8, [.ref wi, .ref po])), (wi, .inl (E.2.1 0, 288, .inl fw)), (po, .inl (E.2.1 0, 10, .inl fo_))]) [10, 11, 13, 12, 14, 1, 2, 3, 4, 5, 6, 7, 8, 0, 9] (by decide) rfl
            exact W.zret (v := 1) hx hb hr (by decide) (fun t ht hW => ⟨⟨1, (u_105, 1, u_106, u_107, u_108, 1, x_124, u_109, wt, u_16, u_17, x_120, u_100, u_113, u_123), rfl, Or.inr rfl, hf_110, by rw [ht]; exact hP9, hD9⟩, hS.F ht⟩) hS.2.2 dX4_work_178
        · refine lv_aload_n hx hb dX4_work_113 rfl (lv_at hl 4 rfl) ?_
          refine lv_dup hx hb dX4_work_114 rfl ?_
          refine va_get (D := E.1) (ci := 4) (v := .int wt) (C := RX4) (T := TX4) (N := 16) hx hb hts inX4 hown hK hP 11 rfl rfl 12 (by decide) fl50 (fun _ h9 => h9) rfl dX4_work_115 ?_
          refine lv_iconst (v := 1) hx hb dX4_work_118 (by decide) ?_
          refine lv_iadd hx hb dX4_work_119 ?_
          refine lv_topi (fun x_125 ex_125 => ?_)
          refine va_put (D := E.1) (ci := 4) (v := .int x_125) (ty := .int) (C := RX4) (T := TX4) (N := 16) hx hb hts inX4 tyX4 tyX4_ok nmX4 hown hK hP hD hS 11 rfl rfl 12 (by decide) fl50 (fun _ h9 => h9) rfl (by decide +kernel) rfl rfl (Nat.le_of_ble_eq_true rfl) dX4_work_120 (fun H locs hP hD hS => ?_)
          have hP : va_P E.1 vwCl [(sp, .inl (E.2.1 0, 25, .inl fs_)), (wi, .inl (E.2.1 0, 288, .inl fw)), (bo_, .inr (0, [.ref sp, .ref pa, .int lt, .ref ru, .ref co, .ref tr])), (pa, .inl (E.2.1 0, 4, .inl fp)), (ru, .inr (7, [.ref s1, .ref s2, .ref s3, .ref s4, .int sz_])), (s1, .inl (E.2.1 0, 12, .inl r1)), (s2, .inl (E.2.1 1, 12, .inl r2)), (s3, .inl (E.2.1 0, 12, .inl r3)), (s4, .inl (E.2.1 0, 12, .inl r4)), (co, .inr (1, [.ref bx, .int bc, .int lc, .int mf, .int li])), (bx, .inl (E.2.1 0, 72, .inl fx)), (h0, .inr (4, [.ref wy, .int 1, .int 0, .int sta, .int hp, .int fd, .int pe, .int at_, .int go, .int 1, .int wa, .int ce, .int x_125, .int u_16, .int u_17, .int dr])), (wy, .inl (E.2.1 0, 8, .inl u_100)), (se, .inr (8, [.ref wi, .ref po])), (po, .inl (E.2.1 0, 10, .inl fo_))] H := hP
          have hD : va_D A [(sp, .inl (E.2.1 0, 25, .inl fs_)), (wi, .inl (E.2.1 0, 288, .inl fw)), (bo_, .inr (0, [.ref sp, .ref pa, .int lt, .ref ru, .ref co, .ref tr])), (pa, .inl (E.2.1 0, 4, .inl fp)), (ru, .inr (7, [.ref s1, .ref s2, .ref s3, .ref s4, .int sz_])), (s1, .inl (E.2.1 0, 12, .inl r1)), (s2, .inl (E.2.1 1, 12, .inl r2)), (s3, .inl (E.2.1 0, 12, .inl r3)), (s4, .inl (E.2.1 0, 12, .inl r4)), (co, .inr (1, [.ref bx, .int bc, .int lc, .int mf, .int li])), (bx, .inl (E.2.1 0, 72, .inl fx)), (h0, .inr (4, [.ref wy, .int 1, .int 0, .int sta, .int hp, .int fd, .int pe, .int at_, .int go, .int 1, .int wa, .int ce, .int x_125, .int u_16, .int u_17, .int dr])), (wy, .inl (E.2.1 0, 8, .inl u_100)), (se, .inr (8, [.ref wi, .ref po])), (po, .inl (E.2.1 0, 10, .inl fo_))] := hD
          refine lv_goto (tgt := 138) hx hb dX4_work_123 (by decide) ?_
          refine lv_aload_n hx hb dX4_work_138 rfl (lv_at hl 4 rfl) ?_
          refine lv_dup hx hb dX4_work_139 rfl ?_
          refine va_get (D := E.1) (ci := 4) (v := .int dr) (C := RX4) (T := TX4) (N := 16) hx hb hts inX4 hown hK hP 11 rfl rfl 15 (by decide) fl59 (fun _ h9 => h9) rfl dX4_work_140 ?_
          refine lv_aload_n hx hb dX4_work_143 rfl (lv_at hl 5 rfl) ?_
          refine lv_aload_n hx hb dX4_work_144 rfl (lv_at hl 4 rfl) ?_
          refine va_get (D := E.1) (ci := 4) (v := .int pe) (C := RX4) (T := TX4) (N := 16) hx hb hts inX4 hown hK hP 11 rfl rfl 6 (by decide) fl31 (fun _ h9 => h9) rfl dX4_work_145 ?_
          have hPc := hP.sub (ws' := [(bo_, .inr (0, [.ref sp, .ref pa, .int lt, .ref ru, .ref co, .ref tr]))]) [2] rfl
          have hDc := hD.sub (ws' := [(bo_, .inr (0, [.ref sp, .ref pa, .int lt, .ref ru, .ref co, .ref tr]))]) [2] (by decide) rfl
          have hFc := va_free (wc := [(bo_, .inr (0, [.ref sp, .ref pa, .int lt, .ref ru, .ref co, .ref tr]))]) hD hS hA [2] rfl
          refine va_calli (va_runV (As := [.int pe]) (rest := [.int dr, .ref h0]) ⟨hx, hb, hml, hown, hts⟩ (c_X0_drink l E bo_ sp pa ru co tr lt pe H.size ) (cwV 1 hts gX4_work_X0_drink rfl rfl rfl hdV_X0_drink ⟨Nat.le_of_ble_eq_true rfl, Nat.le_of_ble_eq_true rfl⟩) ⟨pcW_blind, va_recv hK hPc (ci := 0) (q0 := 0) rfl rfl, (pcW_pre hPc hkn hDc hst hS hFc)⟩ rfl rfl hl.1 rfl (lv_room (Nat.le_of_ble_eq_true rfl)) dX4_work_148 ⟨Nat.le_of_ble_eq_true rfl, Nat.le_of_ble_eq_true rfl⟩) hS (fun q _ h => hFc q h) hFc (fun r_126 u t H1 locs ht hvm hw_127 hB hz1 hk1 hS => ?_)
          obtain ⟨u_128, rfl⟩ : ∃ z, z = u := ⟨_, rfl⟩
          obtain ⟨hP1, hD1⟩ := hB
          rw [ht] at hP1
          try dsimp only at hw_127
          obtain ⟨hP, hD⟩ := va_join (wr := [(sp, .inl (E.2.1 0, 25, .inl fs_)), (wi, .inl (E.2.1 0, 288, .inl fw)), (pa, .inl (E.2.1 0, 4, .inl fp)), (ru, .inr (7, [.ref s1, .ref s2, .ref s3, .ref s4, .int sz_])), (s1, .inl (E.2.1 0, 12, .inl r1)), (s2, .inl (E.2.1 1, 12, .inl r2)), (s3, .inl (E.2.1 0, 12, .inl r3)), (s4, .inl (E.2.1 0, 12, .inl r4)), (co, .inr (1, [.ref bx, .int bc, .int lc, .int mf, .int li])), (bx, .inl (E.2.1 0, 72, .inl fx)), (h0, .inr (4, [.ref wy, .int 1, .int 0, .int sta, .int hp, .int fd, .int pe, .int at_, .int go, .int 1, .int wa, .int ce, .int x_125, .int u_16, .int u_17, .int dr])), (wy, .inl (E.2.1 0, 8, .inl u_100)), (se, .inr (8, [.ref wi, .ref po])), (po, .inl (E.2.1 0, 10, .inl fo_))]) (w1 := [(bo_, .inr (0, [.ref sp, .ref pa, .int u_128, .ref ru, .ref co, .ref tr]))]) hP hD [2] [0, 1, 3, 4, 5, 6, 7, 8, 9, 10, 11, 12, 13, 14] rfl rfl (by decide) (by decide) hk1 hFc hP1 hD1
          generalize H1 = H at hP hS ⊢
          have hP : va_P E.1 vwCl [(sp, .inl (E.2.1 0, 25, .inl fs_)), (wi, .inl (E.2.1 0, 288, .inl fw)), (pa, .inl (E.2.1 0, 4, .inl fp)), (ru, .inr (7, [.ref s1, .ref s2, .ref s3, .ref s4, .int sz_])), (s1, .inl (E.2.1 0, 12, .inl r1)), (s2, .inl (E.2.1 1, 12, .inl r2)), (s3, .inl (E.2.1 0, 12, .inl r3)), (s4, .inl (E.2.1 0, 12, .inl r4)), (co, .inr (1, [.ref bx, .int bc, .int lc, .int mf, .int li])), (bx, .inl (E.2.1 0, 72, .inl fx)), (h0, .inr (4, [.ref wy, .int 1, .int 0, .int sta, .int hp, .int fd, .int pe, .int at_, .int go, .int 1, .int wa, .int ce, .int x_125, .int u_16, .int u_17, .int dr])), (wy, .inl (E.2.1 0, 8, .inl u_100)), (se, .inr (8, [.ref wi, .ref po])), (po, .inl (E.2.1 0, 10, .inl fo_)), (bo_, .inr (0, [.ref sp, .ref pa, .int u_128, .ref ru, .ref co, .ref tr]))] H := hP
          have hD : va_D A [(sp, .inl (E.2.1 0, 25, .inl fs_)), (wi, .inl (E.2.1 0, 288, .inl fw)), (pa, .inl (E.2.1 0, 4, .inl fp)), (ru, .inr (7, [.ref s1, .ref s2, .ref s3, .ref s4, .int sz_])), (s1, .inl (E.2.1 0, 12, .inl r1)), (s2, .inl (E.2.1 1, 12, .inl r2)), (s3, .inl (E.2.1 0, 12, .inl r3)), (s4, .inl (E.2.1 0, 12, .inl r4)), (co, .inr (1, [.ref bx, .int bc, .int lc, .int mf, .int li])), (bx, .inl (E.2.1 0, 72, .inl fx)), (h0, .inr (4, [.ref wy, .int 1, .int 0, .int sta, .int hp, .int fd, .int pe, .int at_, .int go, .int 1, .int wa, .int ce, .int x_125, .int u_16, .int u_17, .int dr])), (wy, .inl (E.2.1 0, 8, .inl u_100)), (se, .inr (8, [.ref wi, .ref po])), (po, .inl (E.2.1 0, 10, .inl fo_)), (bo_, .inr (0, [.ref sp, .ref pa, .int u_128, .ref ru, .ref co, .ref tr]))] := hD
          refine lv_if_eq (tgt := 158) hx hb dX4_work_151 (by decide) (fun c_129 => ?_) (fun c_129 => ?_)
          · refine lv_iconst (v := 1) hx hb dX4_work_158 (by decide) ?_
            refine lv_iadd hx hb dX4_work_159 ?_
            refine lv_topi (fun x_130 ex_130 => ?_)
            refine va_put (D := E.1) (ci := 4) (v := .int x_130) (ty := .int) (C := RX4) (T := TX4) (N := 16) hx hb hts inX4 tyX4 tyX4_ok nmX4 hown hK hP hD hS 10 rfl rfl 15 (by decide) fl59 (fun _ h9 => h9) rfl (by decide +kernel) rfl rfl (Nat.le_of_ble_eq_true rfl) dX4_work_160 (fun H locs hP hD hS => ?_)
            have hP : va_P E.1 vwCl [(sp, .inl (E.2.1 0, 25, .inl fs_)), (wi, .inl (E.2.1 0, 288, .inl fw)), (pa, .inl (E.2.1 0, 4, .inl fp)), (ru, .inr (7, [.ref s1, .ref s2, .ref s3, .ref s4, .int sz_])), (s1, .inl (E.2.1 0, 12, .inl r1)), (s2, .inl (E.2.1 1, 12, .inl r2)), (s3, .inl (E.2.1 0, 12, .inl r3)), (s4, .inl (E.2.1 0, 12, .inl r4)), (co, .inr (1, [.ref bx, .int bc, .int lc, .int mf, .int li])), (bx, .inl (E.2.1 0, 72, .inl fx)), (h0, .inr (4, [.ref wy, .int 1, .int 0, .int sta, .int hp, .int fd, .int pe, .int at_, .int go, .int 1, .int wa, .int ce, .int x_125, .int u_16, .int u_17, .int x_130])), (wy, .inl (E.2.1 0, 8, .inl u_100)), (se, .inr (8, [.ref wi, .ref po])), (po, .inl (E.2.1 0, 10, .inl fo_)), (bo_, .inr (0, [.ref sp, .ref pa, .int u_128, .ref ru, .ref co, .ref tr]))] H := hP
            have hD : va_D A [(sp, .inl (E.2.1 0, 25, .inl fs_)), (wi, .inl (E.2.1 0, 288, .inl fw)), (pa, .inl (E.2.1 0, 4, .inl fp)), (ru, .inr (7, [.ref s1, .ref s2, .ref s3, .ref s4, .int sz_])), (s1, .inl (E.2.1 0, 12, .inl r1)), (s2, .inl (E.2.1 1, 12, .inl r2)), (s3, .inl (E.2.1 0, 12, .inl r3)), (s4, .inl (E.2.1 0, 12, .inl r4)), (co, .inr (1, [.ref bx, .int bc, .int lc, .int mf, .int li])), (bx, .inl (E.2.1 0, 72, .inl fx)), (h0, .inr (4, [.ref wy, .int 1, .int 0, .int sta, .int hp, .int fd, .int pe, .int at_, .int go, .int 1, .int wa, .int ce, .int x_125, .int u_16, .int u_17, .int x_130])), (wy, .inl (E.2.1 0, 8, .inl u_100)), (se, .inr (8, [.ref wi, .ref po])), (po, .inl (E.2.1 0, 10, .inl fo_)), (bo_, .inr (0, [.ref sp, .ref pa, .int u_128, .ref ru, .ref co, .ref tr]))] := hD
            refine lv_aload_n hx hb dX4_work_163 rfl (lv_at hl 5 rfl) ?_
            have hPc := hP.sub (ws' := [(bo_, .inr (0, [.ref sp, .ref pa, .int u_128, .ref ru, .ref co, .ref tr])), (pa, .inl (E.2.1 0, 4, .inl fp))]) [14, 2] rfl
            have hDc := hD.sub (ws' := [(bo_, .inr (0, [.ref sp, .ref pa, .int u_128, .ref ru, .ref co, .ref tr])), (pa, .inl (E.2.1 0, 4, .inl fp))]) [14, 2] (by decide) rfl
            have hFc := va_free (wc := [(bo_, .inr (0, [.ref sp, .ref pa, .int u_128, .ref ru, .ref co, .ref tr])), (pa, .inl (E.2.1 0, 4, .inl fp))]) hD hS hA [14, 2] rfl
            refine va_callv (va_runV (As := []) (rest := []) ⟨hx, hb, hml, hown, hts⟩ (c_X0_wear l E bo_ sp pa ru co tr u_128 fp H.size ) (cwV 0 hts gX4_work_X0_wear rfl rfl rfl hdV_X0_wear ⟨Nat.le_of_ble_eq_true rfl, Nat.le_of_ble_eq_true rfl⟩) ⟨pcW_blind, va_recv hK hPc (ci := 0) (q0 := 0) rfl rfl, (pcW_pre hPc hkn hDc hst hS hFc)⟩ rfl rfl hl.1 rfl (lv_room (Nat.le_of_ble_eq_true rfl)) dX4_work_164 ⟨Nat.le_of_ble_eq_true rfl, Nat.le_of_ble_eq_true rfl⟩) hS (fun q _ h => hFc q h) hFc (fun u t H1 locs ht hvm hw_132 hB hz1 hk1 hS => ?_)
            obtain ⟨u_133, rfl⟩ : ∃ z, z = u := ⟨_, rfl⟩
            obtain ⟨hP1, hD1⟩ := hB
            rw [ht] at hP1
            try dsimp only at hw_132
            obtain ⟨hP, hD⟩ := va_join (wr := [(sp, .inl (E.2.1 0, 25, .inl fs_)), (wi, .inl (E.2.1 0, 288, .inl fw)), (ru, .inr (7, [.ref s1, .ref s2, .ref s3, .ref s4, .int sz_])), (s1, .inl (E.2.1 0, 12, .inl r1)), (s2, .inl (E.2.1 1, 12, .inl r2)), (s3, .inl (E.2.1 0, 12, .inl r3)), (s4, .inl (E.2.1 0, 12, .inl r4)), (co, .inr (1, [.ref bx, .int bc, .int lc, .int mf, .int li])), (bx, .inl (E.2.1 0, 72, .inl fx)), (h0, .inr (4, [.ref wy, .int 1, .int 0, .int sta, .int hp, .int fd, .int pe, .int at_, .int go, .int 1, .int wa, .int ce, .int x_125, .int u_16, .int u_17, .int x_130])), (wy, .inl (E.2.1 0, 8, .inl u_100)), (se, .inr (8, [.ref wi, .ref po])), (po, .inl (E.2.1 0, 10, .inl fo_))]) (w1 := [(bo_, .inr (0, [.ref sp, .ref pa, .int u_128, .ref ru, .ref co, .ref tr])), (pa, .inl (E.2.1 0, 4, .inl u_133))]) hP hD [14, 2] [0, 1, 3, 4, 5, 6, 7, 8, 9, 10, 11, 12, 13] rfl rfl (by decide) (by decide) hk1 hFc hP1 hD1
            generalize H1 = H at hP hS ⊢
            have hP : va_P E.1 vwCl [(sp, .inl (E.2.1 0, 25, .inl fs_)), (wi, .inl (E.2.1 0, 288, .inl fw)), (ru, .inr (7, [.ref s1, .ref s2, .ref s3, .ref s4, .int sz_])), (s1, .inl (E.2.1 0, 12, .inl r1)), (s2, .inl (E.2.1 1, 12, .inl r2)), (s3, .inl (E.2.1 0, 12, .inl r3)), (s4, .inl (E.2.1 0, 12, .inl r4)), (co, .inr (1, [.ref bx, .int bc, .int lc, .int mf, .int li])), (bx, .inl (E.2.1 0, 72, .inl fx)), (h0, .inr (4, [.ref wy, .int 1, .int 0, .int sta, .int hp, .int fd, .int pe, .int at_, .int go, .int 1, .int wa, .int ce, .int x_125, .int u_16, .int u_17, .int x_130])), (wy, .inl (E.2.1 0, 8, .inl u_100)), (se, .inr (8, [.ref wi, .ref po])), (po, .inl (E.2.1 0, 10, .inl fo_)), (bo_, .inr (0, [.ref sp, .ref pa, .int u_128, .ref ru, .ref co, .ref tr])), (pa, .inl (E.2.1 0, 4, .inl u_133))] H := hP
            have hD : va_D A [(sp, .inl (E.2.1 0, 25, .inl fs_)), (wi, .inl (E.2.1 0, 288, .inl fw)), (ru, .inr (7, [.ref s1, .ref s2, .ref s3, .ref s4, .int sz_])), (s1, .inl (E.2.1 0, 12, .inl r1)), (s2, .inl (E.2.1 1, 12, .inl r2)), (s3, .inl (E.2.1 0, 12, .inl r3)), (s4, .inl (E.2.1 0, 12, .inl r4)), (co, .inr (1, [.ref bx, .int bc, .int lc, .int mf, .int li])), (bx, .inl (E.2.1 0, 72, .inl fx)), (h0, .inr (4, [.ref wy, .int 1, .int 0, .int sta, .int hp, .int fd, .int pe, .int at_, .int go, .int 1, .int wa, .int ce, .int x_125, .int u_16, .int u_17, .int x_130])), (wy, .inl (E.2.1 0, 8, .inl u_100)), (se, .inr (8, [.ref wi, .ref po])), (po, .inl (E.2.1 0, 10, .inl fo_)), (bo_, .inr (0, [.ref sp, .ref pa, .int u_128, .ref ru, .ref co, .ref tr])), (pa, .inl (E.2.1 0, 4, .inl u_133))] := hD
            refine lv_aload_n hx hb dX4_work_167 rfl (lv_at hl 4 rfl) ?_
            refine lv_dup hx hb dX4_work_168 rfl ?_
            refine va_get (D := E.1) (ci := 4) (v := .int wa) (C := RX4) (T := TX4) (N := 16) hx hb hts inX4 hown hK hP 9 rfl rfl 10 (by decide) fl44 (fun _ h9 => h9) rfl dX4_work_169 ?_
            refine lv_iconst (v := 1) hx hb dX4_work_172 (by decide) ?_
            refine lv_iadd hx hb dX4_work_173 ?_
            refine lv_topi (fun x_134 ex_134 => ?_)
            refine va_put (D := E.1) (ci := 4) (v := .int x_134) (ty := .int) (C := RX4) (T := TX4) (N := 16) hx hb hts inX4 tyX4 tyX4_ok nmX4 hown hK hP hD hS 9 rfl rfl 10 (by decide) fl44 (fun _ h9 => h9) rfl (by decide +kernel) rfl rfl (Nat.le_of_ble_eq_true rfl) dX4_work_174 (fun H locs hP hD hS => ?_)
            have hP : va_P E.1 vwCl [(sp, .inl (E.2.1 0, 25, .inl fs_)), (wi, .inl (E.2.1 0, 288, .inl fw)), (ru, .inr (7, [.ref s1, .ref s2, .ref s3, .ref s4, .int sz_])), (s1, .inl (E.2.1 0, 12, .inl r1)), (s2, .inl (E.2.1 1, 12, .inl r2)), (s3, .inl (E.2.1 0, 12, .inl r3)), (s4, .inl (E.2.1 0, 12, .inl r4)), (co, .inr (1, [.ref bx, .int bc, .int lc, .int mf, .int li])), (bx, .inl (E.2.1 0, 72, .inl fx)), (h0, .inr (4, [.ref wy, .int 1, .int 0, .int sta, .int hp, .int fd, .int pe, .int at_, .int go, .int 1, .int x_134, .int ce, .int x_125, .int u_16, .int u_17, .int x_130])), (wy, .inl (E.2.1 0, 8, .inl u_100)), (se, .inr (8, [.ref wi, .ref po])), (po, .inl (E.2.1 0, 10, .inl fo_)), (bo_, .inr (0, [.ref sp, .ref pa, .int u_128, .ref ru, .ref co, .ref tr])), (pa, .inl (E.2.1 0, 4, .inl u_133))] H := hP
            have hD : va_D A [(sp, .inl (E.2.1 0, 25, .inl fs_)), (wi, .inl (E.2.1 0, 288, .inl fw)), (ru, .inr (7, [.ref s1, .ref s2, .ref s3, .ref s4, .int sz_])), (s1, .inl (E.2.1 0, 12, .inl r1)), (s2, .inl (E.2.1 1, 12, .inl r2)), (s3, .inl (E.2.1 0, 12, .inl r3)), (s4, .inl (E.2.1 0, 12, .inl r4)), (co, .inr (1, [.ref bx, .int bc, .int lc, .int mf, .int li])), (bx, .inl (E.2.1 0, 72, .inl fx)), (h0, .inr (4, [.ref wy, .int 1, .int 0, .int sta, .int hp, .int fd, .int pe, .int at_, .int go, .int 1, .int x_134, .int ce, .int x_125, .int u_16, .int u_17, .int x_130])), (wy, .inl (E.2.1 0, 8, .inl u_100)), (se, .inr (8, [.ref wi, .ref po])), (po, .inl (E.2.1 0, 10, .inl fo_)), (bo_, .inr (0, [.ref sp, .ref pa, .int u_128, .ref ru, .ref co, .ref tr])), (pa, .inl (E.2.1 0, 4, .inl u_133))] := hD
            refine lv_iconst (v := 1) hx hb dX4_work_177 (by decide) ?_
            have hP9 := hP.sub (ws' := [(h0, .inr (4, [.ref wy, .int 1, .int 0, .int sta, .int hp, .int fd, .int pe, .int at_, .int go, .int 1, .int x_134, .int ce, .int x_125, .int u_16, .int u_17, .int x_130])), (wy, .inl (E.2.1 0, 8, .inl u_100)), (bo_, .inr (0, [.ref sp, .ref pa, .int u_128, .ref ru, .ref co, .ref tr])), (sp, .inl (E.2.1 0, 25, .inl fs_)), (pa, .inl (E.2.1 0, 4, .inl u_133)), (ru, .inr (7, [.ref s1, .ref s2, .ref s3, .ref s4, .int sz_])), (s1, .inl (E.2.1 0, 12, .inl r1)), (s2, .inl (E.2.1 1, 12, .inl r2)), (s3, .inl (E.2.1 0, 12, .inl r3)), (s4, .inl (E.2.1 0, 12, .inl r4)), (co, .inr (1, [.ref bx, .int bc, .int lc, .int mf, .int li])), (bx, .inl (E.2.1 0, 72, .inl fx)), (se, .inr (8, [.ref wi, .ref po])), (wi, .inl (E.2.1 0, 288, .inl fw)), (po, .inl (E.2.1 0, 10, .inl fo_))]) [9, 10, 13, 0, 14, 2, 3, 4, 5, 6, 7, 8, 11, 1, 12] rfl
            have hD9 := hD.sub (ws' := [(h0, .inr (4, [.ref wy, .int 1, .int 0, .int sta, .int hp, .int fd, .int pe, .int at_, .int go, .int 1, .int x_134, .int ce, .int x_125, .int u_16, .int u_17, .int x_130])), (wy, .inl (E.2.1 0, 8, .inl u_100)), (bo_, .inr (0, [.ref sp, .ref pa, .int u_128, .ref ru, .ref co, .ref tr])), (sp, .inl (E.2.1 0, 25, .inl fs_)), (pa, .inl (E.2.1 0, 4, .inl u_133)), (ru, .inr (7, [.ref s1, .ref s2, .ref s3, .ref s4, .int sz_])), (s1, .inl (E.2.1 0, 12, .inl r1)), (s2, .inl (E.2.1 1, 12, .inl r2)), (s3, .inl (E.2.1 0, 12, .inl r3)), (s4, .inl (E.2.1 0, 12, .inl r4)), (co, .inr (1, [.ref bx, .int bc, .int lc, .int mf, .int li])), (bx, .inl (E.2.1 0, 72, .inl fx)), (se, .inr (8, [.ref wi, .ref po])), (wi, .inl (E.2.1 0, 288, .inl fw)), (po, .inl (E.2.1 0, 10, .inl fo_))]) [9, 10, 13, 0, 14, 2, 3, 4, 5, 6, 7, 8, 11, 1, 12] (by decide) rfl
            exact W.zret (v := 1) hx hb hr (by decide) (fun t ht hW => ⟨⟨1, (0, 1, sta, at_, go, 1, x_134, ce, x_125, u_16, u_17, x_130, u_100, u_128, u_133), rfl, Or.inr rfl, (by omega), by rw [ht]; exact hP9, hD9⟩, hS.F ht⟩) hS.2.2 dX4_work_178
          · refine lv_iconst (v := 0) hx hb dX4_work_154 (by decide) ?_
            refine lv_goto (tgt := 159) hx hb dX4_work_155 (by decide) ?_
            refine lv_iadd hx hb dX4_work_159 ?_
            refine lv_topi (fun x_135 ex_135 => ?_)
            refine va_put (D := E.1) (ci := 4) (v := .int x_135) (ty := .int) (C := RX4) (T := TX4) (N := 16) hx hb hts inX4 tyX4 tyX4_ok nmX4 hown hK hP hD hS 10 rfl rfl 15 (by decide) fl59 (fun _ h9 => h9) rfl (by decide +kernel) rfl rfl (Nat.le_of_ble_eq_true rfl) dX4_work_160 (fun H locs hP hD hS => ?_)
            have hP : va_P E.1 vwCl [(sp, .inl (E.2.1 0, 25, .inl fs_)), (wi, .inl (E.2.1 0, 288, .inl fw)), (pa, .inl (E.2.1 0, 4, .inl fp)), (ru, .inr (7, [.ref s1, .ref s2, .ref s3, .ref s4, .int sz_])), (s1, .inl (E.2.1 0, 12, .inl r1)), (s2, .inl (E.2.1 1, 12, .inl r2)), (s3, .inl (E.2.1 0, 12, .inl r3)), (s4, .inl (E.2.1 0, 12, .inl r4)), (co, .inr (1, [.ref bx, .int bc, .int lc, .int mf, .int li])), (bx, .inl (E.2.1 0, 72, .inl fx)), (h0, .inr (4, [.ref wy, .int 1, .int 0, .int sta, .int hp, .int fd, .int pe, .int at_, .int go, .int 1, .int wa, .int ce, .int x_125, .int u_16, .int u_17, .int x_135])), (wy, .inl (E.2.1 0, 8, .inl u_100)), (se, .inr (8, [.ref wi, .ref po])), (po, .inl (E.2.1 0, 10, .inl fo_)), (bo_, .inr (0, [.ref sp, .ref pa, .int u_128, .ref ru, .ref co, .ref tr]))] H := hP
            have hD : va_D A [(sp, .inl (E.2.1 0, 25, .inl fs_)), (wi, .inl (E.2.1 0, 288, .inl fw)), (pa, .inl (E.2.1 0, 4, .inl fp)), (ru, .inr (7, [.ref s1, .ref s2, .ref s3, .ref s4, .int sz_])), (s1, .inl (E.2.1 0, 12, .inl r1)), (s2, .inl (E.2.1 1, 12, .inl r2)), (s3, .inl (E.2.1 0, 12, .inl r3)), (s4, .inl (E.2.1 0, 12, .inl r4)), (co, .inr (1, [.ref bx, .int bc, .int lc, .int mf, .int li])), (bx, .inl (E.2.1 0, 72, .inl fx)), (h0, .inr (4, [.ref wy, .int 1, .int 0, .int sta, .int hp, .int fd, .int pe, .int at_, .int go, .int 1, .int wa, .int ce, .int x_125, .int u_16, .int u_17, .int x_135])), (wy, .inl (E.2.1 0, 8, .inl u_100)), (se, .inr (8, [.ref wi, .ref po])), (po, .inl (E.2.1 0, 10, .inl fo_)), (bo_, .inr (0, [.ref sp, .ref pa, .int u_128, .ref ru, .ref co, .ref tr]))] := hD
            refine lv_aload_n hx hb dX4_work_163 rfl (lv_at hl 5 rfl) ?_
            have hPc := hP.sub (ws' := [(bo_, .inr (0, [.ref sp, .ref pa, .int u_128, .ref ru, .ref co, .ref tr])), (pa, .inl (E.2.1 0, 4, .inl fp))]) [14, 2] rfl
            have hDc := hD.sub (ws' := [(bo_, .inr (0, [.ref sp, .ref pa, .int u_128, .ref ru, .ref co, .ref tr])), (pa, .inl (E.2.1 0, 4, .inl fp))]) [14, 2] (by decide) rfl
            have hFc := va_free (wc := [(bo_, .inr (0, [.ref sp, .ref pa, .int u_128, .ref ru, .ref co, .ref tr])), (pa, .inl (E.2.1 0, 4, .inl fp))]) hD hS hA [14, 2] rfl
            refine va_callv (va_runV (As := []) (rest := []) ⟨hx, hb, hml, hown, hts⟩ (c_X0_wear l E bo_ sp pa ru co tr u_128 fp H.size ) (cwV 0 hts gX4_work_X0_wear rfl rfl rfl hdV_X0_wear ⟨Nat.le_of_ble_eq_true rfl, Nat.le_of_ble_eq_true rfl⟩) ⟨pcW_blind, va_recv hK hPc (ci := 0) (q0 := 0) rfl rfl, (pcW_pre hPc hkn hDc hst hS hFc)⟩ rfl rfl hl.1 rfl (lv_room (Nat.le_of_ble_eq_true rfl)) dX4_work_164 ⟨Nat.le_of_ble_eq_true rfl, Nat.le_of_ble_eq_true rfl⟩) hS (fun q _ h => hFc q h) hFc (fun u t H1 locs ht hvm hw_137 hB hz1 hk1 hS => ?_)
            obtain ⟨u_138, rfl⟩ : ∃ z, z = u := ⟨_, rfl⟩
            obtain ⟨hP1, hD1⟩ := hB
            rw [ht] at hP1
            try dsimp only at hw_137
            obtain ⟨hP, hD⟩ := va_join (wr := [(sp, .inl (E.2.1 0, 25, .inl fs_)), (wi, .inl (E.2.1 0, 288, .inl fw)), (ru, .inr (7, [.ref s1, .ref s2, .ref s3, .ref s4, .int sz_])), (s1, .inl (E.2.1 0, 12, .inl r1)), (s2, .inl (E.2.1 1, 12, .inl r2)), (s3, .inl (E.2.1 0, 12, .inl r3)), (s4, .inl (E.2.1 0, 12, .inl r4)), (co, .inr (1, [.ref bx, .int bc, .int lc, .int mf, .int li])), (bx, .inl (E.2.1 0, 72, .inl fx)), (h0, .inr (4, [.ref wy, .int 1, .int 0, .int sta, .int hp, .int fd, .int pe, .int at_, .int go, .int 1, .int wa, .int ce, .int x_125, .int u_16, .int u_17, .int x_135])), (wy, .inl (E.2.1 0, 8, .inl u_100)), (se, .inr (8, [.ref wi, .ref po])), (po, .inl (E.2.1 0, 10, .inl fo_))]) (w1 := [(bo_, .inr (0, [.ref sp, .ref pa, .int u_128, .ref ru, .ref co, .ref tr])), (pa, .inl (E.2.1 0, 4, .inl u_138))]) hP hD [14, 2] [0, 1, 3, 4, 5, 6, 7, 8, 9, 10, 11, 12, 13] rfl rfl (by decide) (by decide) hk1 hFc hP1 hD1
            generalize H1 = H at hP hS ⊢
            have hP : va_P E.1 vwCl [(sp, .inl (E.2.1 0, 25, .inl fs_)), (wi, .inl (E.2.1 0, 288, .inl fw)), (ru, .inr (7, [.ref s1, .ref s2, .ref s3, .ref s4, .int sz_])), (s1, .inl (E.2.1 0, 12, .inl r1)), (s2, .inl (E.2.1 1, 12, .inl r2)), (s3, .inl (E.2.1 0, 12, .inl r3)), (s4, .inl (E.2.1 0, 12, .inl r4)), (co, .inr (1, [.ref bx, .int bc, .int lc, .int mf, .int li])), (bx, .inl (E.2.1 0, 72, .inl fx)), (h0, .inr (4, [.ref wy, .int 1, .int 0, .int sta, .int hp, .int fd, .int pe, .int at_, .int go, .int 1, .int wa, .int ce, .int x_125, .int u_16, .int u_17, .int x_135])), (wy, .inl (E.2.1 0, 8, .inl u_100)), (se, .inr (8, [.ref wi, .ref po])), (po, .inl (E.2.1 0, 10, .inl fo_)), (bo_, .inr (0, [.ref sp, .ref pa, .int u_128, .ref ru, .ref co, .ref tr])), (pa, .inl (E.2.1 0, 4, .inl u_138))] H := hP
            have hD : va_D A [(sp, .inl (E.2.1 0, 25, .inl fs_)), (wi, .inl (E.2.1 0, 288, .inl fw)), (ru, .inr (7, [.ref s1, .ref s2, .ref s3, .ref s4, .int sz_])), (s1, .inl (E.2.1 0, 12, .inl r1)), (s2, .inl (E.2.1 1, 12, .inl r2)), (s3, .inl (E.2.1 0, 12, .inl r3)), (s4, .inl (E.2.1 0, 12, .inl r4)), (co, .inr (1, [.ref bx, .int bc, .int lc, .int mf, .int li])), (bx, .inl (E.2.1 0, 72, .inl fx)), (h0, .inr (4, [.ref wy, .int 1, .int 0, .int sta, .int hp, .int fd, .int pe, .int at_, .int go, .int 1, .int wa, .int ce, .int x_125, .int u_16, .int u_17, .int x_135])), (wy, .inl (E.2.1 0, 8, .inl u_100)), (se, .inr (8, [.ref wi, .ref po])), (po, .inl (E.2.1 0, 10, .inl fo_)), (bo_, .inr (0, [.ref sp, .ref pa, .int u_128, .ref ru, .ref co, .ref tr])), (pa, .inl (E.2.1 0, 4, .inl u_138))] := hD
            refine lv_aload_n hx hb dX4_work_167 rfl (lv_at hl 4 rfl) ?_
            refine lv_dup hx hb dX4_work_168 rfl ?_
            refine va_get (D := E.1) (ci := 4) (v := .int wa) (C := RX4) (T := TX4) (N := 16) hx hb hts inX4 hown hK hP 9 rfl rfl 10 (by decide) fl44 (fun _ h9 => h9) rfl dX4_work_169 ?_
            refine lv_iconst (v := 1) hx hb dX4_work_172 (by decide) ?_
            refine lv_iadd hx hb dX4_work_173 ?_
            refine lv_topi (fun x_139 ex_139 => ?_)
            refine va_put (D := E.1) (ci := 4) (v := .int x_139) (ty := .int) (C := RX4) (T := TX4) (N := 16) hx hb hts inX4 tyX4 tyX4_ok nmX4 hown hK hP hD hS 9 rfl rfl 10 (by decide) fl44 (fun _ h9 => h9) rfl (by decide +kernel) rfl rfl (Nat.le_of_ble_eq_true rfl) dX4_work_174 (fun H locs hP hD hS => ?_)
            have hP : va_P E.1 vwCl [(sp, .inl (E.2.1 0, 25, .inl fs_)), (wi, .inl (E.2.1 0, 288, .inl fw)), (ru, .inr (7, [.ref s1, .ref s2, .ref s3, .ref s4, .int sz_])), (s1, .inl (E.2.1 0, 12, .inl r1)), (s2, .inl (E.2.1 1, 12, .inl r2)), (s3, .inl (E.2.1 0, 12, .inl r3)), (s4, .inl (E.2.1 0, 12, .inl r4)), (co, .inr (1, [.ref bx, .int bc, .int lc, .int mf, .int li])), (bx, .inl (E.2.1 0, 72, .inl fx)), (h0, .inr (4, [.ref wy, .int 1, .int 0, .int sta, .int hp, .int fd, .int pe, .int at_, .int go, .int 1, .int x_139, .int ce, .int x_125, .int u_16, .int u_17, .int x_135])), (wy, .inl (E.2.1 0, 8, .inl u_100)), (se, .inr (8, [.ref wi, .ref po])), (po, .inl (E.2.1 0, 10, .inl fo_)), (bo_, .inr (0, [.ref sp, .ref pa, .int u_128, .ref ru, .ref co, .ref tr])), (pa, .inl (E.2.1 0, 4, .inl u_138))] H := hP
            have hD : va_D A [(sp, .inl (E.2.1 0, 25, .inl fs_)), (wi, .inl (E.2.1 0, 288, .inl fw)), (ru, .inr (7, [.ref s1, .ref s2, .ref s3, .ref s4, .int sz_])), (s1, .inl (E.2.1 0, 12, .inl r1)), (s2, .inl (E.2.1 1, 12, .inl r2)), (s3, .inl (E.2.1 0, 12, .inl r3)), (s4, .inl (E.2.1 0, 12, .inl r4)), (co, .inr (1, [.ref bx, .int bc, .int lc, .int mf, .int li])), (bx, .inl (E.2.1 0, 72, .inl fx)), (h0, .inr (4, [.ref wy, .int 1, .int 0, .int sta, .int hp, .int fd, .int pe, .int at_, .int go, .int 1, .int x_139, .int ce, .int x_125, .int u_16, .int u_17, .int x_135])), (wy, .inl (E.2.1 0, 8, .inl u_100)), (se, .inr (8, [.ref wi, .ref po])), (po, .inl (E.2.1 0, 10, .inl fo_)), (bo_, .inr (0, [.ref sp, .ref pa, .int u_128, .ref ru, .ref co, .ref tr])), (pa, .inl (E.2.1 0, 4, .inl u_138))] := hD
            refine lv_iconst (v := 1) hx hb dX4_work_177 (by decide) ?_
            have hP9 := hP.sub (ws' := [(h0, .inr (4, [.ref wy, .int 1, .int 0, .int sta, .int hp, .int fd, .int pe, .int at_, .int go, .int 1, .int x_139, .int ce, .int x_125, .int u_16, .int u_17, .int x_135])), (wy, .inl (E.2.1 0, 8, .inl u_100)), (bo_, .inr (0, [.ref sp, .ref pa, .int u_128, .ref ru, .ref co, .ref tr])), (sp, .inl (E.2.1 0, 25, .inl fs_)), (pa, .inl (E.2.1 0, 4, .inl u_138)), (ru, .inr (7, [.ref s1, .ref s2, .ref s3, .ref s4, .int sz_])), (s1, .inl (E.2.1 0, 12, .inl r1)), (s2, .inl (E.2.1 1, 12, .inl r2)), (s3, .inl (E.2.1 0, 12, .inl r3)), (s4, .inl (E.2.1 0, 12, .inl r4)), (co, .inr (1, [.ref bx, .int bc, .int lc, .int mf, .int li])), (bx, .inl (E.2.1 0, 72, .inl fx)), (se, .inr (8, [.ref wi, .ref po])), (wi, .inl (E.2.1 0, 288, .inl fw)), (po, .inl (E.2.1 0, 10, .inl fo_))]) [9, 10, 13, 0, 14, 2, 3, 4, 5, 6, 7, 8, 11, 1, 12] rfl
            have hD9 := hD.sub (ws' := [(h0, .inr (4, [.ref wy, .int 1, .int 0, .int sta, .int hp, .int fd, .int pe, .int at_, .int go, .int 1, .int x_139, .int ce, .int x_125, .int u_16, .int u_17, .int x_135])), (wy, .inl (E.2.1 0, 8, .inl u_100)), (bo_, .inr (0, [.ref sp, .ref pa, .int u_128, .ref ru, .ref co, .ref tr])), (sp, .inl (E.2.1 0, 25, .inl fs_)), (pa, .inl (E.2.1 0, 4, .inl u_138)), (ru, .inr (7, [.ref s1, .ref s2, .ref s3, .ref s4, .int sz_])), (s1, .inl (E.2.1 0, 12, .inl r1)), (s2, .inl (E.2.1 1, 12, .inl r2)), (s3, .inl (E.2.1 0, 12, .inl r3)), (s4, .inl (E.2.1 0, 12, .inl r4)), (co, .inr (1, [.ref bx, .int bc, .int lc, .int mf, .int li])), (bx, .inl (E.2.1 0, 72, .inl fx)), (se, .inr (8, [.ref wi, .ref po])), (wi, .inl (E.2.1 0, 288, .inl fw)), (po, .inl (E.2.1 0, 10, .inl fo_))]) [9, 10, 13, 0, 14, 2, 3, 4, 5, 6, 7, 8, 11, 1, 12] (by decide) rfl
            exact W.zret (v := 1) hx hb hr (by decide) (fun t ht hW => ⟨⟨1, (0, 1, sta, at_, go, 1, x_139, ce, x_125, u_16, u_17, x_135, u_100, u_128, u_138), rfl, Or.inr rfl, (by omega), by rw [ht]; exact hP9, hD9⟩, hS.F ht⟩) hS.2.2 dX4_work_178
  · refine lv_aload_n hx hb dX4_work_56 rfl (lv_at hl 4 rfl) ?_
    refine lv_iconst (v := 2) hx hb dX4_work_57 (by decide) ?_
    refine va_put (D := E.1) (ci := 4) (v := .int 2) (ty := .int) (C := RX4) (T := TX4) (N := 16) hx hb hts inX4 tyX4 tyX4_ok nmX4 hown hK hP hD hS 0 rfl rfl 3 (by decide) fl22 (fun _ h9 => h9) rfl (by decide +kernel) rfl rfl (Nat.le_of_ble_eq_true rfl) dX4_work_58 (fun H locs hP hD hS => ?_)
    have hP : va_P E.1 vwCl [(h0, .inr (4, [.ref wy, .int wl_, .int (nI ps), .int 2, .int hp, .int fd, .int pe, .int at_, .int go, .int tu, .int wa, .int ce, .int wt, .int un, .int fu, .int dr])), (wy, .inl (E.2.1 0, 8, .inl fy)), (sp, .inl (E.2.1 0, 25, .inl fs_)), (co, .inr (1, [.ref bx, .int bc, .int lc, .int mf, .int li])), (bx, .inl (E.2.1 0, 72, .inl fx)), (po, .inl (E.2.1 0, 10, .inl fo_)), (se, .inr (8, [.ref wi, .ref po])), (wi, .inl (E.2.1 0, 288, .inl fw)), (bo_, .inr (0, [.ref sp, .ref pa, .int lt, .ref ru, .ref co, .ref tr])), (pa, .inl (E.2.1 0, 4, .inl fp)), (ru, .inr (7, [.ref s1, .ref s2, .ref s3, .ref s4, .int sz_])), (s1, .inl (E.2.1 0, 12, .inl r1)), (s2, .inl (E.2.1 1, 12, .inl r2)), (s3, .inl (E.2.1 0, 12, .inl r3)), (s4, .inl (E.2.1 0, 12, .inl r4))] H := hP
    have hD : va_D A [(h0, .inr (4, [.ref wy, .int wl_, .int (nI ps), .int 2, .int hp, .int fd, .int pe, .int at_, .int go, .int tu, .int wa, .int ce, .int wt, .int un, .int fu, .int dr])), (wy, .inl (E.2.1 0, 8, .inl fy)), (sp, .inl (E.2.1 0, 25, .inl fs_)), (co, .inr (1, [.ref bx, .int bc, .int lc, .int mf, .int li])), (bx, .inl (E.2.1 0, 72, .inl fx)), (po, .inl (E.2.1 0, 10, .inl fo_)), (se, .inr (8, [.ref wi, .ref po])), (wi, .inl (E.2.1 0, 288, .inl fw)), (bo_, .inr (0, [.ref sp, .ref pa, .int lt, .ref ru, .ref co, .ref tr])), (pa, .inl (E.2.1 0, 4, .inl fp)), (ru, .inr (7, [.ref s1, .ref s2, .ref s3, .ref s4, .int sz_])), (s1, .inl (E.2.1 0, 12, .inl r1)), (s2, .inl (E.2.1 1, 12, .inl r2)), (s3, .inl (E.2.1 0, 12, .inl r3)), (s4, .inl (E.2.1 0, 12, .inl r4))] := hD
    refine lv_iconst (v := 0) hx hb dX4_work_61 (by decide) ?_
    have hP9 := hP.sub (ws' := [(h0, .inr (4, [.ref wy, .int wl_, .int (nI ps), .int 2, .int hp, .int fd, .int pe, .int at_, .int go, .int tu, .int wa, .int ce, .int wt, .int un, .int fu, .int dr])), (wy, .inl (E.2.1 0, 8, .inl fy)), (bo_, .inr (0, [.ref sp, .ref pa, .int lt, .ref ru, .ref co, .ref tr])), (sp, .inl (E.2.1 0, 25, .inl fs_)), (pa, .inl (E.2.1 0, 4, .inl fp)), (ru, .inr (7, [.ref s1, .ref s2, .ref s3, .ref s4, .int sz_])), (s1, .inl (E.2.1 0, 12, .inl r1)), (s2, .inl (E.2.1 1, 12, .inl r2)), (s3, .inl (E.2.1 0, 12, .inl r3)), (s4, .inl (E.2.1 0, 12, .inl r4)), (co, .inr (1, [.ref bx, .int bc, .int lc, .int mf, .int li])), (bx, .inl (E.2.1 0, 72, .inl fx)), (se, .inr (8, [.ref wi, .ref po])), (wi, .inl (E.2.1 0, 288, .inl fw)), (po, .inl (E.2.1 0, 10, .inl fo_))]) [0, 1, 8, 2, 9, 10, 11, 12, 13, 14, 3, 4, 6, 7, 5] rfl
    have hD9 := hD.sub (ws' := [(h0, .inr (4, [.ref wy, .int wl_, .int (nI ps), .int 2, .int hp, .int fd, .int pe, .int at_, .int go, .int tu, .int wa, .int ce, .int wt, .int un, .int fu, .int dr])), (wy, .inl (E.2.1 0, 8, .inl fy)), (bo_, .inr (0, [.ref sp, .ref pa, .int lt, .ref ru, .ref co, .ref tr])), (sp, .inl (E.2.1 0, 25, .inl fs_)), (pa, .inl (E.2.1 0, 4, .inl fp)), (ru, .inr (7, [.ref s1, .ref s2, .ref s3, .ref s4, .int sz_])), (s1, .inl (E.2.1 0, 12, .inl r1)), (s2, .inl (E.2.1 1, 12, .inl r2)), (s3, .inl (E.2.1 0, 12, .inl r3)), (s4, .inl (E.2.1 0, 12, .inl r4)), (co, .inr (1, [.ref bx, .int bc, .int lc, .int mf, .int li])), (bx, .inl (E.2.1 0, 72, .inl fx)), (se, .inr (8, [.ref wi, .ref po])), (wi, .inl (E.2.1 0, 288, .inl fw)), (po, .inl (E.2.1 0, 10, .inl fo_))]) [0, 1, 8, 2, 9, 10, 11, 12, 13, 14, 3, 4, 6, 7, 5] (by decide) rfl
    exact W.zret (v := 0) hx hb hr (by decide) (fun t ht hW => ⟨⟨0, (ps, wl_, 2, at_, go, tu, wa, ce, wt, un, fu, dr, fy, lt, fp), rfl, Or.inl rfl, hps, by rw [ht]; exact hP9, hD9⟩, hS.F ht⟩) hS.2.2 dX4_work_62
