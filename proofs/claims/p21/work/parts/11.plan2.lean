set_option maxHeartbeats 4000000 in
set_option maxRecDepth 100000 in
theorem lg_days1 {p : Program} {l : Launch} {e : Env} {R : Room} {s : State} {m : MethodId} {args : Array Value} {below : List Frame} {meth : Method} {c : Code} {cells slots : Nat} {Q : State → Prop} {A : Nat → Prop} (E : vE) (h0 : Nat) (of : Nat) (k1 : Nat) (k2 : Nat) (k3 : Nat) (k4 : Nat) (md : Int32) (dn : Int32) (fsu : Int32) (e1 : Nat) (e2 : Nat) (e3 : Nat) (e4 : Nat) (g1 : Nat) (g2 : Nat) (g3 : Nat) (g4 : Nat) (g5 : Nat) (g6 : Nat) (g7 : Nat) (g8 : Nat) (on : Nat) (d1 : Nat → Int32) (d2 : Nat → Int32) (d3 : Nat → Int32) (d4 : Nat → Int32) (d5 : Nat → Int32) (d6 : Nat → Int32) (d7 : Nat → Int32) (d8 : Nat → Int32) (c2 : Nat → Int32) (f3 : Nat → Int32) (cr : Nat) (f4 : Nat → Int32) (hx : p.tables.exec = Jvm.exec) (hb : c.code = cX5_setDays) (hml : c.maxLocals = 8) (hown : s.vm.findClass RX5 = some m.cls) (hts : ∀ w ∈ wsX5_setDays, w.before args s = true) (hkn : kn E s) (hst : st E A s s.heap) (hA : ∀ q : Nat, s.heap.size ≤ q → A q) (kk : ∀ (sv : Nat) (H : Heap) (locs : List Loc) (ls : Array Slot), (sv < 128) → va_P E.1 vwCl [(h0, .inr (5, [.ref of, .ref k1, .ref k2, .ref k3, .ref k4, .int md, .int dn, .int fsu])), (k3, .inl (E.2.1 0, 7, .inl f3)), (k4, .inl (E.2.1 0, 7, .inl f4)), (k1, .inr (3, [.ref of, .ref e1, .ref e2, .ref e3, .ref e4])), (e2, .inl (E.2.1 0, 512, .inl c2)), (of, .inr (2, [.ref g1, .ref g2, .ref g3, .ref g4, .ref g5, .int (nI on), .ref g6, .ref g7, .ref g8])), (g1, .inl (E.2.1 0, 7, .inl d1)), (g2, .inl (E.2.1 0, 7, .inl d2)), (g3, .inl (E.2.1 0, 7, .inl d3)), (g4, .inl (E.2.1 0, 7, .inl d4)), (g5, .inl (E.2.1 0, 7, .inl d5)), (g6, .inl (E.2.1 0, 4, .inl d6)), (g7, .inl (E.2.1 0, 4, .inl d7)), (g8, .inl (E.2.1 0, 100, .inl d8))] H → va_D A [(h0, .inr (5, [.ref of, .ref k1, .ref k2, .ref k3, .ref k4, .int md, .int dn, .int fsu])), (k3, .inl (E.2.1 0, 7, .inl f3)), (k4, .inl (E.2.1 0, 7, .inl f4)), (k1, .inr (3, [.ref of, .ref e1, .ref e2, .ref e3, .ref e4])), (e2, .inl (E.2.1 0, 512, .inl c2)), (of, .inr (2, [.ref g1, .ref g2, .ref g3, .ref g4, .ref g5, .int (nI on), .ref g6, .ref g7, .ref g8])), (g1, .inl (E.2.1 0, 7, .inl d1)), (g2, .inl (E.2.1 0, 7, .inl d2)), (g3, .inl (E.2.1 0, 7, .inl d3)), (g4, .inl (E.2.1 0, 7, .inl d4)), (g5, .inl (E.2.1 0, 7, .inl d5)), (g6, .inl (E.2.1 0, 4, .inl d6)), (g7, .inl (E.2.1 0, 4, .inl d7)), (g8, .inl (E.2.1 0, 100, .inl d8))] → va_S A s.heap H locs → lv_has ls 8 [(0, .ref h0), (1, .int (nI cr)), (2, .int (nI sv))] → W p l e R s m args below meth c H locs cells slots Q (F0 m 47 ls [])) : ∀ (n0 : Nat) (k : Nat) (sv : Nat) (H : Heap) (locs : List Loc) (ls : Array Slot), 7 - k < n0 → (k ≤ 7) → (sv < 128) → va_P E.1 vwCl [(h0, .inr (5, [.ref of, .ref k1, .ref k2, .ref k3, .ref k4, .int md, .int dn, .int fsu])), (k3, .inl (E.2.1 0, 7, .inl f3)), (k4, .inl (E.2.1 0, 7, .inl f4)), (k1, .inr (3, [.ref of, .ref e1, .ref e2, .ref e3, .ref e4])), (e2, .inl (E.2.1 0, 512, .inl c2)), (of, .inr (2, [.ref g1, .ref g2, .ref g3, .ref g4, .ref g5, .int (nI on), .ref g6, .ref g7, .ref g8])), (g1, .inl (E.2.1 0, 7, .inl d1)), (g2, .inl (E.2.1 0, 7, .inl d2)), (g3, .inl (E.2.1 0, 7, .inl d3)), (g4, .inl (E.2.1 0, 7, .inl d4)), (g5, .inl (E.2.1 0, 7, .inl d5)), (g6, .inl (E.2.1 0, 4, .inl d6)), (g7, .inl (E.2.1 0, 4, .inl d7)), (g8, .inl (E.2.1 0, 100, .inl d8))] H → va_D A [(h0, .inr (5, [.ref of, .ref k1, .ref k2, .ref k3, .ref k4, .int md, .int dn, .int fsu])), (k3, .inl (E.2.1 0, 7, .inl f3)), (k4, .inl (E.2.1 0, 7, .inl f4)), (k1, .inr (3, [.ref of, .ref e1, .ref e2, .ref e3, .ref e4])), (e2, .inl (E.2.1 0, 512, .inl c2)), (of, .inr (2, [.ref g1, .ref g2, .ref g3, .ref g4, .ref g5, .int (nI on), .ref g6, .ref g7, .ref g8])), (g1, .inl (E.2.1 0, 7, .inl d1)), (g2, .inl (E.2.1 0, 7, .inl d2)), (g3, .inl (E.2.1 0, 7, .inl d3)), (g4, .inl (E.2.1 0, 7, .inl d4)), (g5, .inl (E.2.1 0, 7, .inl d5)), (g6, .inl (E.2.1 0, 4, .inl d6)), (g7, .inl (E.2.1 0, 4, .inl d7)), (g8, .inl (E.2.1 0, 100, .inl d8))] → va_S A s.heap H locs → lv_has ls 8 [(0, .ref h0), (1, .int (nI cr)), (2, .int (nI sv)), (3, .int (nI k))] → W p l e R s m args below meth c H locs cells slots Q (F0 m 4 ls []) := by
  have hK := hkn.1
  have hAO := hkn.2.2.1
  have fl15 := hts (.fieldLink RX5 15 "BoatsHome$Plan" "crewOf" "[I") (by first | exact List.mem_of_getElem? (i := 3) rfl | decide +kernel)
  have fl19 := hts (.fieldLink RX5 19 "BoatsHome$Plan" "dayOf" "[I") (by first | exact List.mem_of_getElem? (i := 8) rfl | decide +kernel)
  have fl33 := hts (.fieldLink RX5 33 "BoatsHome$Plan" "offers" "LBoatsHome$Offers;") (by first | exact List.mem_of_getElem? (i := 1) rfl | decide +kernel)
  have fl42 := hts (.fieldLink RX5 42 "BoatsHome$Plan" "orders" "LBoatsHome$Orders;") (by first | exact List.mem_of_getElem? (i := 4) rfl | decide +kernel)
  have fl54 := hts (.fieldLink RX5 54 "BoatsHome$Offers" "crewPorts" "[I") (by first | exact List.mem_of_getElem? (i := 6) rfl | decide +kernel)
  have fl72 := hts (.fieldLink RX5 72 "BoatsHome$Offers" "size" "I") (by first | exact List.mem_of_getElem? (i := 2) rfl | decide +kernel)
  have fl104 := hts (.fieldLink RX5 104 "BoatsHome$Orders" "orders" "[I") (by first | exact List.mem_of_getElem? (i := 5) rfl | decide +kernel)
  have fl106 := hts (.fieldLink RX5 106 "BoatsHome$Offers" "crewDays" "[I") (by first | exact List.mem_of_getElem? (i := 7) rfl | decide +kernel)
  have fl113 := hts (.fieldLink RX5 113 "BoatsHome$Offers" "days" "[I") (by first | exact List.mem_of_getElem? (i := 9) rfl | decide +kernel)
  have fl116 := hts (.fieldLink RX5 116 "BoatsHome$Offers" "to" "[I") (by first | exact List.mem_of_getElem? (i := 10) rfl | decide +kernel)
  have inX2 : ∀ w ∈ u_ws RX2 TX2 9, w ∈ wsX5_setDays := by first | exact fun w h9 => (List.mem_cons_of_mem _ (List.mem_append_left _ (List.mem_append_right _ h9))) | decide +kernel
  have inX3 : ∀ w ∈ u_ws RX3 TX3 5, w ∈ wsX5_setDays := by first | exact fun w h9 => (List.mem_cons_of_mem _ (List.mem_append_right _ h9)) | decide +kernel
  have inX5 : ∀ w ∈ u_ws RX5 TX5 8, w ∈ wsX5_setDays := by first | exact fun w h9 => (List.mem_cons_of_mem _ (List.mem_append_left _ (List.mem_append_left _ (List.mem_append_right _ h9)))) | decide +kernel
  intro n0
  induction n0 with
  | zero =>
    intro k sv H locs ls hn0
    exact absurd hn0 (Nat.not_lt_zero _)
  | succ n0 ih =>
    intro k sv H locs ls hn0 hk hsv hP hD hS hl
    refine lv_iload_n hx hb dX5_setDays_4 rfl (lv_at hl 3 rfl) ?_
    refine lv_aload_n hx hb dX5_setDays_5 rfl (lv_at hl 0 rfl) ?_
    refine va_get (D := E.1) (ci := 5) (v := .ref of) (C := RX5) (T := TX5) (N := 8) hx hb hts inX5 hown hK hP 0 rfl rfl 0 (by decide) fl33 (fun _ h9 => h9) rfl dX5_setDays_6 ?_
    refine va_get (D := E.1) (ci := 2) (v := .int (nI on)) (C := RX2) (T := TX2) (N := 9) hx hb hts inX2 hown hK hP 5 rfl rfl 5 (by decide) fl72 (fun _ h9 => h9) rfl dX5_setDays_9 ?_
    refine lv_icmp_ge (tgt := 47) hx hb dX5_setDays_12 (by decide) (fun c_1 => ?_) (fun c_1 => ?_)
    · exact kk sv _ _ _ hsv (hP.sub [0, 1, 2, 3, 4, 5, 6, 7, 8, 9, 10, 11, 12, 13] rfl) (hD.sub [0, 1, 2, 3, 4, 5, 6, 7, 8, 9, 10, 11, 12, 13] (by decide) rfl) hS (lv_sub hl [0, 1, 2] rfl)
    · refine lv_iload_n hx hb dX5_setDays_15 rfl (lv_at hl 3 rfl) ?_
      refine lv_bipush (v := 7) hx hb dX5_setDays_16 (by decide) ?_
      refine lv_icmp_ge (tgt := 47) hx hb dX5_setDays_18 (by decide) (fun c_2 => ?_) (fun c_2 => ?_)
      · exact kk sv _ _ _ hsv (hP.sub [0, 1, 2, 3, 4, 5, 6, 7, 8, 9, 10, 11, 12, 13] rfl) (hD.sub [0, 1, 2, 3, 4, 5, 6, 7, 8, 9, 10, 11, 12, 13] (by decide) rfl) hS (lv_sub hl [0, 1, 2] rfl)
      · have hlt : k < 7 := by
          rcases Nat.lt_or_ge k 7 with q | q
          · exact q
          · exact absurd (show (7 : Int32) ≤ nI k from nI_le (a := 7) q (by omega)) c_2
        refine lv_iload_n hx hb dX5_setDays_21 rfl (lv_at hl 2 rfl) ?_
        refine lv_aload_n hx hb dX5_setDays_22 rfl (lv_at hl 0 rfl) ?_
        refine va_get (D := E.1) (ci := 5) (v := .ref k3) (C := RX5) (T := TX5) (N := 8) hx hb hts inX5 hown hK hP 0 rfl rfl 3 (by decide) fl15 (fun _ h9 => h9) rfl dX5_setDays_23 ?_
        refine lv_iload_n hx hb dX5_setDays_26 rfl (lv_at hl 3 rfl) ?_
        have hi_3 : vp_in (nI k) 7 := vp_in_nI hlt (by decide)
        refine va_iald hx hb hK hP 1 0 rfl rfl hi_3 dX5_setDays_27 ?_
        refine lv_topi (fun x_4 ex_4 => ?_)
        refine lv_iload_n hx hb dX5_setDays_28 rfl (lv_at hl 1 rfl) ?_
        refine lv_icmp_ne (tgt := 38) hx hb dX5_setDays_29 (by decide) (fun c_5 => ?_) (fun c_5 => ?_)
        · refine lv_iconst (v := 0) hx hb dX5_setDays_38 (by decide) ?_
          refine lv_ior hx hb dX5_setDays_39 ?_
          refine lv_topi (fun x_6 ex_6 => ?_)
          obtain ⟨w_7, hwd_8, ew_9⟩ : ∃ w, w < 128 ∧ x_6 = nI w := by first | (rw [ex_6]; exact or_bit hsv hlt) | (rw [ex_6]; exact or_zero hsv)
          subst ew_9
          refine lv_istore_n (lv' := [(2, .int (nI w_7)), (0, .ref h0), (1, .int (nI cr)), (3, .int (nI k))]) hx hb dX5_setDays_40 rfl hl (by decide) rfl (fun ls hl => ?_)
          refine lv_iinc (v := (nI (k + 1))) (lv' := [(3, .int (nI (k + 1))), (2, .int (nI w_7)), (0, .ref h0), (1, .int (nI cr))]) hx hb dX5_setDays_41 hl (k := 3) rfl (show nI k + 1 = nI (k + 1) from nI_1 k) (by decide) rfl (fun ls hl => ?_)
          refine lv_goto (tgt := 4) hx hb dX5_setDays_44 (by decide) ?_
          exact ih (k + 1) w_7 _ _ _ (by omega) (by omega) hwd_8 (hP.sub [0, 1, 2, 3, 4, 5, 6, 7, 8, 9, 10, 11, 12, 13] rfl) (hD.sub [0, 1, 2, 3, 4, 5, 6, 7, 8, 9, 10, 11, 12, 13] (by decide) rfl) hS (lv_sub hl [2, 3, 1, 0] rfl)
        · refine lv_iconst (v := 1) hx hb dX5_setDays_32 (by decide) ?_
          refine lv_iload_n hx hb dX5_setDays_33 rfl (lv_at hl 3 rfl) ?_
          refine lv_ishl hx hb dX5_setDays_34 ?_
          refine lv_topi (fun x_10 ex_10 => ?_)
          refine lv_goto (tgt := 39) hx hb dX5_setDays_35 (by decide) ?_
          refine lv_ior hx hb dX5_setDays_39 ?_
          refine lv_topi (fun x_11 ex_11 => ?_)
          obtain ⟨w_12, hwd_13, ew_14⟩ : ∃ w, w < 128 ∧ x_11 = nI w := by first | (rw [ex_11, ex_10]; exact or_bit hsv hlt) | (rw [ex_11, ex_10]; exact or_zero hsv)
          subst ew_14
          refine lv_istore_n (lv' := [(2, .int (nI w_12)), (0, .ref h0), (1, .int (nI cr)), (3, .int (nI k))]) hx hb dX5_setDays_40 rfl hl (by decide) rfl (fun ls hl => ?_)
          refine lv_iinc (v := (nI (k + 1))) (lv' := [(3, .int (nI (k + 1))), (2, .int (nI w_12)), (0, .ref h0), (1, .int (nI cr))]) hx hb dX5_setDays_41 hl (k := 3) rfl (show nI k + 1 = nI (k + 1) from nI_1 k) (by decide) rfl (fun ls hl => ?_)
          refine lv_goto (tgt := 4) hx hb dX5_setDays_44 (by decide) ?_
          exact ih (k + 1) w_12 _ _ _ (by omega) (by omega) hwd_13 (hP.sub [0, 1, 2, 3, 4, 5, 6, 7, 8, 9, 10, 11, 12, 13] rfl) (hD.sub [0, 1, 2, 3, 4, 5, 6, 7, 8, 9, 10, 11, 12, 13] (by decide) rfl) hS (lv_sub hl [2, 3, 1, 0] rfl)
set_option maxHeartbeats 4000000 in
set_option maxRecDepth 100000 in
theorem lg_days2 {p : Program} {l : Launch} {e : Env} {s : State} {m : MethodId} {args : Array Value} {below : List Frame} {meth : Method} {c : Code} {Q : State → Prop} {A : Nat → Prop} (E : vE) (h0 : Nat) (of : Nat) (k1 : Nat) (k2 : Nat) (k3 : Nat) (k4 : Nat) (md : Int32) (dn : Int32) (fsu : Int32) (e1 : Nat) (e2 : Nat) (e3 : Nat) (e4 : Nat) (g1 : Nat) (g2 : Nat) (g3 : Nat) (g4 : Nat) (g5 : Nat) (g6 : Nat) (g7 : Nat) (g8 : Nat) (on : Nat) (d1 : Nat → Int32) (d2 : Nat → Int32) (d3 : Nat → Int32) (d4 : Nat → Int32) (d5 : Nat → Int32) (d6 : Nat → Int32) (d7 : Nat → Int32) (d8 : Nat → Int32) (c2 : Nat → Int32) (f3 : Nat → Int32) (cr : Nat) (od_ : Int32) (hx : p.tables.exec = Jvm.exec) (hb : c.code = cX5_setDays) (hml : c.maxLocals = 8) (hown : s.vm.findClass RX5 = some m.cls) (hts : ∀ w ∈ wsX5_setDays, w.before args s = true) (hkn : kn E s) (hst : st E A s s.heap) (hA : ∀ q : Nat, s.heap.size ≤ q → A q) (hd1 : ∀ k, k < 7 → inR (d1 k) 0 9 = true) (kk : ∀ (f4 : Nat → Int32) (H : Heap) (locs : List Loc) (ls : Array Slot), va_P E.1 vwCl [(h0, .inr (5, [.ref of, .ref k1, .ref k2, .ref k3, .ref k4, .int md, .int dn, .int fsu])), (k3, .inl (E.2.1 0, 7, .inl f3)), (k4, .inl (E.2.1 0, 7, .inl f4)), (k1, .inr (3, [.ref of, .ref e1, .ref e2, .ref e3, .ref e4])), (e2, .inl (E.2.1 0, 512, .inl c2)), (of, .inr (2, [.ref g1, .ref g2, .ref g3, .ref g4, .ref g5, .int (nI on), .ref g6, .ref g7, .ref g8])), (g1, .inl (E.2.1 0, 7, .inl d1)), (g2, .inl (E.2.1 0, 7, .inl d2)), (g3, .inl (E.2.1 0, 7, .inl d3)), (g4, .inl (E.2.1 0, 7, .inl d4)), (g5, .inl (E.2.1 0, 7, .inl d5)), (g6, .inl (E.2.1 0, 4, .inl d6)), (g7, .inl (E.2.1 0, 4, .inl d7)), (g8, .inl (E.2.1 0, 100, .inl d8))] H → va_D A [(h0, .inr (5, [.ref of, .ref k1, .ref k2, .ref k3, .ref k4, .int md, .int dn, .int fsu])), (k3, .inl (E.2.1 0, 7, .inl f3)), (k4, .inl (E.2.1 0, 7, .inl f4)), (k1, .inr (3, [.ref of, .ref e1, .ref e2, .ref e3, .ref e4])), (e2, .inl (E.2.1 0, 512, .inl c2)), (of, .inr (2, [.ref g1, .ref g2, .ref g3, .ref g4, .ref g5, .int (nI on), .ref g6, .ref g7, .ref g8])), (g1, .inl (E.2.1 0, 7, .inl d1)), (g2, .inl (E.2.1 0, 7, .inl d2)), (g3, .inl (E.2.1 0, 7, .inl d3)), (g4, .inl (E.2.1 0, 7, .inl d4)), (g5, .inl (E.2.1 0, 7, .inl d5)), (g6, .inl (E.2.1 0, 4, .inl d6)), (g7, .inl (E.2.1 0, 4, .inl d7)), (g8, .inl (E.2.1 0, 100, .inl d8))] → va_S A s.heap H locs → lv_has ls 8 [(0, .ref h0)] → W p l e ({ frames := 3, cells := 0, slots := 0, locals := 68 }) s m args below meth c H locs 0 0 Q (F0 m 173 ls [])) : ∀ (n0 : Nat) (pv : Int32) (dv : Int32) (zz : Int32) (f4 : Nat → Int32) (H : Heap) (locs : List Loc) (ls : Array Slot), (zz.toInt + 3).toNat < n0 → va_P E.1 vwCl [(h0, .inr (5, [.ref of, .ref k1, .ref k2, .ref k3, .ref k4, .int md, .int dn, .int fsu])), (k3, .inl (E.2.1 0, 7, .inl f3)), (k4, .inl (E.2.1 0, 7, .inl f4)), (k1, .inr (3, [.ref of, .ref e1, .ref e2, .ref e3, .ref e4])), (e2, .inl (E.2.1 0, 512, .inl c2)), (of, .inr (2, [.ref g1, .ref g2, .ref g3, .ref g4, .ref g5, .int (nI on), .ref g6, .ref g7, .ref g8])), (g1, .inl (E.2.1 0, 7, .inl d1)), (g2, .inl (E.2.1 0, 7, .inl d2)), (g3, .inl (E.2.1 0, 7, .inl d3)), (g4, .inl (E.2.1 0, 7, .inl d4)), (g5, .inl (E.2.1 0, 7, .inl d5)), (g6, .inl (E.2.1 0, 4, .inl d6)), (g7, .inl (E.2.1 0, 4, .inl d7)), (g8, .inl (E.2.1 0, 100, .inl d8))] H → va_D A [(h0, .inr (5, [.ref of, .ref k1, .ref k2, .ref k3, .ref k4, .int md, .int dn, .int fsu])), (k3, .inl (E.2.1 0, 7, .inl f3)), (k4, .inl (E.2.1 0, 7, .inl f4)), (k1, .inr (3, [.ref of, .ref e1, .ref e2, .ref e3, .ref e4])), (e2, .inl (E.2.1 0, 512, .inl c2)), (of, .inr (2, [.ref g1, .ref g2, .ref g3, .ref g4, .ref g5, .int (nI on), .ref g6, .ref g7, .ref g8])), (g1, .inl (E.2.1 0, 7, .inl d1)), (g2, .inl (E.2.1 0, 7, .inl d2)), (g3, .inl (E.2.1 0, 7, .inl d3)), (g4, .inl (E.2.1 0, 7, .inl d4)), (g5, .inl (E.2.1 0, 7, .inl d5)), (g6, .inl (E.2.1 0, 4, .inl d6)), (g7, .inl (E.2.1 0, 4, .inl d7)), (g8, .inl (E.2.1 0, 100, .inl d8))] → va_S A s.heap H locs → lv_has ls 8 [(0, .ref h0), (1, .int (nI cr)), (3, .int od_), (4, .int pv), (5, .int dv), (6, .int zz)] → W p l e ({ frames := 3, cells := 0, slots := 0, locals := 68 }) s m args below meth c H locs 0 0 Q (F0 m 94 ls []) := by
  have hK := hkn.1
  have hAO := hkn.2.2.1
  have fl15 := hts (.fieldLink RX5 15 "BoatsHome$Plan" "crewOf" "[I") (by first | exact List.mem_of_getElem? (i := 3) rfl | decide +kernel)
  have fl19 := hts (.fieldLink RX5 19 "BoatsHome$Plan" "dayOf" "[I") (by first | exact List.mem_of_getElem? (i := 8) rfl | decide +kernel)
  have fl33 := hts (.fieldLink RX5 33 "BoatsHome$Plan" "offers" "LBoatsHome$Offers;") (by first | exact List.mem_of_getElem? (i := 1) rfl | decide +kernel)
  have fl42 := hts (.fieldLink RX5 42 "BoatsHome$Plan" "orders" "LBoatsHome$Orders;") (by first | exact List.mem_of_getElem? (i := 4) rfl | decide +kernel)
  have fl54 := hts (.fieldLink RX5 54 "BoatsHome$Offers" "crewPorts" "[I") (by first | exact List.mem_of_getElem? (i := 6) rfl | decide +kernel)
  have fl72 := hts (.fieldLink RX5 72 "BoatsHome$Offers" "size" "I") (by first | exact List.mem_of_getElem? (i := 2) rfl | decide +kernel)
  have fl104 := hts (.fieldLink RX5 104 "BoatsHome$Orders" "orders" "[I") (by first | exact List.mem_of_getElem? (i := 5) rfl | decide +kernel)
  have fl106 := hts (.fieldLink RX5 106 "BoatsHome$Offers" "crewDays" "[I") (by first | exact List.mem_of_getElem? (i := 7) rfl | decide +kernel)
  have fl113 := hts (.fieldLink RX5 113 "BoatsHome$Offers" "days" "[I") (by first | exact List.mem_of_getElem? (i := 9) rfl | decide +kernel)
  have fl116 := hts (.fieldLink RX5 116 "BoatsHome$Offers" "to" "[I") (by first | exact List.mem_of_getElem? (i := 10) rfl | decide +kernel)
  have inX2 : ∀ w ∈ u_ws RX2 TX2 9, w ∈ wsX5_setDays := by first | exact fun w h9 => (List.mem_cons_of_mem _ (List.mem_append_left _ (List.mem_append_right _ h9))) | decide +kernel
  have inX3 : ∀ w ∈ u_ws RX3 TX3 5, w ∈ wsX5_setDays := by first | exact fun w h9 => (List.mem_cons_of_mem _ (List.mem_append_right _ h9)) | decide +kernel
  have inX5 : ∀ w ∈ u_ws RX5 TX5 8, w ∈ wsX5_setDays := by first | exact fun w h9 => (List.mem_cons_of_mem _ (List.mem_append_left _ (List.mem_append_left _ (List.mem_append_right _ h9)))) | decide +kernel
  intro n0
  induction n0 with
  | zero =>
    intro pv dv zz f4 H locs ls hn0
    exact absurd hn0 (Nat.not_lt_zero _)
  | succ n0 ih =>
    intro pv dv zz f4 H locs ls hn0  hP hD hS hl
    refine lv_iload hx hb dX5_setDays_94 (lv_at hl 5 rfl) ?_
    refine lv_if_lt (tgt := 173) hx hb dX5_setDays_96 (by decide) (fun c_1 => ?_) (fun c_1 => ?_)
    · exact kk f4 _ _ _  (hP.sub [0, 1, 2, 3, 4, 5, 6, 7, 8, 9, 10, 11, 12, 13] rfl) (hD.sub [0, 1, 2, 3, 4, 5, 6, 7, 8, 9, 10, 11, 12, 13] (by decide) rfl) hS (lv_sub hl [0] rfl)
    · refine lv_iload_n hx hb dX5_setDays_99 rfl (lv_at hl 2 rfl) ?_
      refine lv_iload hx hb dX5_setDays_100 (lv_at hl 5 rfl) ?_
      refine lv_ishr hx hb dX5_setDays_102 ?_
      refine lv_topi (fun x_2 ex_2 => ?_)
      refine lv_bipush (v := 7) hx hb dX5_setDays_103 (by decide) ?_
      refine lv_iand hx hb dX5_setDays_105 ?_
      refine lv_topi (fun x_3 ex_3 => ?_)
      obtain ⟨m_4, hm_5, em_6⟩ : ∃ j : Nat, j < 2 ^ 3 ∧ x_3 = nI j := by rw [ex_3]; exact pk_andE _ 3 (by decide)
      subst em_6
      refine lv_iconst (v := 1) hx hb dX5_setDays_106 (by decide) ?_
      refine lv_isub hx hb dX5_setDays_107 ?_
      refine lv_topi (fun x_7 ex_7 => ?_)
      refine lv_istore (lv' := [(7, .int x_7), (0, .ref h0), (1, .int (nI cr)), (3, .int od_), (4, .int pv), (5, .int dv), (6, .int zz)]) hx hb dX5_setDays_108 hl (by decide) rfl (fun ls hl => ?_)
      refine lv_iload hx hb dX5_setDays_110 (lv_at hl 0 rfl) ?_
      refine lv_if_lt (tgt := 167) hx hb dX5_setDays_112 (by decide) (fun c_8 => ?_) (fun c_8 => ?_)
      · obtain ⟨x_9, ex_9⟩ : ∃ y : Int32, y = zz + (-3) := ⟨_, rfl⟩
        refine lv_iinc (v := x_9) (lv' := [(6, .int x_9), (7, .int x_7), (0, .ref h0), (1, .int (nI cr)), (3, .int od_), (4, .int pv), (5, .int dv)]) hx hb dX5_setDays_167 hl (k := 6) rfl (by rw [ex_9]; rfl) (by decide) rfl (fun ls hl => ?_)
        refine lv_goto (tgt := 94) hx hb dX5_setDays_170 (by decide) ?_
        exact ih pv dv x_9 f4 _ _ _ (by rw [ex_9]; exact sub3 (hn := hn0) c_1) (hP.sub [0, 1, 2, 3, 4, 5, 6, 7, 8, 9, 10, 11, 12, 13] rfl) (hD.sub [0, 1, 2, 3, 4, 5, 6, 7, 8, 9, 10, 11, 12, 13] (by decide) rfl) hS (lv_sub hl [2, 3, 4, 5, 6, 0] rfl)
      · obtain ⟨dd, hdd, edd⟩ : ∃ d : Nat, d < 7 ∧ x_7 = nI d := sub_one hm_5 ex_7 c_8
        subst edd
        refine lv_aload_n hx hb dX5_setDays_115 rfl (lv_at hl 1 rfl) ?_
        refine va_get (D := E.1) (ci := 5) (v := .ref k4) (C := RX5) (T := TX5) (N := 8) hx hb hts inX5 hown hK hP 0 rfl rfl 4 (by decide) fl19 (fun _ h9 => h9) rfl dX5_setDays_116 ?_
        refine lv_iload hx hb dX5_setDays_119 (lv_at hl 0 rfl) ?_
        refine lv_aload_n hx hb dX5_setDays_121 rfl (lv_at hl 1 rfl) ?_
        refine va_get (D := E.1) (ci := 5) (v := .ref of) (C := RX5) (T := TX5) (N := 8) hx hb hts inX5 hown hK hP 0 rfl rfl 0 (by decide) fl33 (fun _ h9 => h9) rfl dX5_setDays_122 ?_
        refine lv_iload hx hb dX5_setDays_125 (lv_at hl 0 rfl) ?_
        refine lv_iload hx hb dX5_setDays_127 (lv_at hl 4 rfl) ?_
        refine lv_iload hx hb dX5_setDays_129 (lv_at hl 5 rfl) ?_
        have hPc := hP.sub (ws' := [(of, .inr (2, [.ref g1, .ref g2, .ref g3, .ref g4, .ref g5, .int (nI on), .ref g6, .ref g7, .ref g8])), (g1, .inl (E.2.1 0, 7, .inl d1)), (g4, .inl (E.2.1 0, 7, .inl d4)), (g5, .inl (E.2.1 0, 7, .inl d5)), (g8, .inl (E.2.1 0, 100, .inl d8))]) [5, 6, 9, 10, 13] rfl
        have hDc := hD.sub (ws' := [(of, .inr (2, [.ref g1, .ref g2, .ref g3, .ref g4, .ref g5, .int (nI on), .ref g6, .ref g7, .ref g8])), (g1, .inl (E.2.1 0, 7, .inl d1)), (g4, .inl (E.2.1 0, 7, .inl d4)), (g5, .inl (E.2.1 0, 7, .inl d5)), (g8, .inl (E.2.1 0, 100, .inl d8))]) [5, 6, 9, 10, 13] (by decide) rfl
        have hFc := va_free (wc := [(of, .inr (2, [.ref g1, .ref g2, .ref g3, .ref g4, .ref g5, .int (nI on), .ref g6, .ref g7, .ref g8])), (g1, .inl (E.2.1 0, 7, .inl d1)), (g4, .inl (E.2.1 0, 7, .inl d4)), (g5, .inl (E.2.1 0, 7, .inl d5)), (g8, .inl (E.2.1 0, 100, .inl d8))]) hD hS hA [5, 6, 9, 10, 13] rfl
        refine va_calli (va_runV (As := [.int (nI dd), .int pv, .int dv]) (rest := [.int (nI dd), .ref k4]) ⟨hx, hb, hml, hown, hts⟩ (c_X2_startOf l E of g1 g2 g3 g4 g5 g6 g7 g8 on d1 d4 d5 d8 dd pv dv H.size hdd hd1) (cwV 3 hts gX5_setDays_X2_startOf rfl rfl rfl hdV_X2_startOf ⟨Nat.le_of_ble_eq_true rfl, Nat.le_of_ble_eq_true rfl⟩) ⟨pcW_blind, va_recv hK hPc (ci := 2) (q0 := 0) rfl rfl, (pcW_pre hPc hkn hDc hst hS hFc)⟩ rfl rfl hl.1 rfl (lv_room (Nat.le_of_ble_eq_true rfl)) dX5_setDays_131 ⟨Nat.le_of_ble_eq_true rfl, Nat.le_of_ble_eq_true rfl⟩) hS (fun q _ h => hFc q h) hFc (fun r_10 u t H1 locs ht hvm hw_11 hB hz1 hk1 hS => ?_)
        obtain ⟨hP1, hD1⟩ := hB
        rw [ht] at hP1
        try dsimp only at hw_11
        obtain ⟨hP, hD⟩ := va_join (wr := [(h0, .inr (5, [.ref of, .ref k1, .ref k2, .ref k3, .ref k4, .int md, .int dn, .int fsu])), (k3, .inl (E.2.1 0, 7, .inl f3)), (k4, .inl (E.2.1 0, 7, .inl f4)), (k1, .inr (3, [.ref of, .ref e1, .ref e2, .ref e3, .ref e4])), (e2, .inl (E.2.1 0, 512, .inl c2)), (g2, .inl (E.2.1 0, 7, .inl d2)), (g3, .inl (E.2.1 0, 7, .inl d3)), (g6, .inl (E.2.1 0, 4, .inl d6)), (g7, .inl (E.2.1 0, 4, .inl d7))]) (w1 := [(of, .inr (2, [.ref g1, .ref g2, .ref g3, .ref g4, .ref g5, .int (nI on), .ref g6, .ref g7, .ref g8])), (g1, .inl (E.2.1 0, 7, .inl d1)), (g4, .inl (E.2.1 0, 7, .inl d4)), (g5, .inl (E.2.1 0, 7, .inl d5)), (g8, .inl (E.2.1 0, 100, .inl d8))]) hP hD [5, 6, 9, 10, 13] [0, 1, 2, 3, 4, 7, 8, 11, 12] rfl rfl (by decide) (by decide) hk1 hFc hP1 hD1
        generalize H1 = H at hP hS ⊢
        have hP : va_P E.1 vwCl [(h0, .inr (5, [.ref of, .ref k1, .ref k2, .ref k3, .ref k4, .int md, .int dn, .int fsu])), (k3, .inl (E.2.1 0, 7, .inl f3)), (k4, .inl (E.2.1 0, 7, .inl f4)), (k1, .inr (3, [.ref of, .ref e1, .ref e2, .ref e3, .ref e4])), (e2, .inl (E.2.1 0, 512, .inl c2)), (g2, .inl (E.2.1 0, 7, .inl d2)), (g3, .inl (E.2.1 0, 7, .inl d3)), (g6, .inl (E.2.1 0, 4, .inl d6)), (g7, .inl (E.2.1 0, 4, .inl d7)), (of, .inr (2, [.ref g1, .ref g2, .ref g3, .ref g4, .ref g5, .int (nI on), .ref g6, .ref g7, .ref g8])), (g1, .inl (E.2.1 0, 7, .inl d1)), (g4, .inl (E.2.1 0, 7, .inl d4)), (g5, .inl (E.2.1 0, 7, .inl d5)), (g8, .inl (E.2.1 0, 100, .inl d8))] H := hP
        have hD : va_D A [(h0, .inr (5, [.ref of, .ref k1, .ref k2, .ref k3, .ref k4, .int md, .int dn, .int fsu])), (k3, .inl (E.2.1 0, 7, .inl f3)), (k4, .inl (E.2.1 0, 7, .inl f4)), (k1, .inr (3, [.ref of, .ref e1, .ref e2, .ref e3, .ref e4])), (e2, .inl (E.2.1 0, 512, .inl c2)), (g2, .inl (E.2.1 0, 7, .inl d2)), (g3, .inl (E.2.1 0, 7, .inl d3)), (g6, .inl (E.2.1 0, 4, .inl d6)), (g7, .inl (E.2.1 0, 4, .inl d7)), (of, .inr (2, [.ref g1, .ref g2, .ref g3, .ref g4, .ref g5, .int (nI on), .ref g6, .ref g7, .ref g8])), (g1, .inl (E.2.1 0, 7, .inl d1)), (g4, .inl (E.2.1 0, 7, .inl d4)), (g5, .inl (E.2.1 0, 7, .inl d5)), (g8, .inl (E.2.1 0, 100, .inl d8))] := hD
        have hi_12 : vp_in (nI dd) 7 := vp_in_nI hdd (by decide)
        refine va_iast hx hb hK hP hD hS 2 0 rfl rfl hi_12 dX5_setDays_134 (fun H locs hP hD hS => ?_)
        have hP : va_P E.1 vwCl [(h0, .inr (5, [.ref of, .ref k1, .ref k2, .ref k3, .ref k4, .int md, .int dn, .int fsu])), (k3, .inl (E.2.1 0, 7, .inl f3)), (k4, .inl (E.2.1 0, 7, .inl (upd f4 (nI dd).toNatClampNeg r_10))), (k1, .inr (3, [.ref of, .ref e1, .ref e2, .ref e3, .ref e4])), (e2, .inl (E.2.1 0, 512, .inl c2)), (g2, .inl (E.2.1 0, 7, .inl d2)), (g3, .inl (E.2.1 0, 7, .inl d3)), (g6, .inl (E.2.1 0, 4, .inl d6)), (g7, .inl (E.2.1 0, 4, .inl d7)), (of, .inr (2, [.ref g1, .ref g2, .ref g3, .ref g4, .ref g5, .int (nI on), .ref g6, .ref g7, .ref g8])), (g1, .inl (E.2.1 0, 7, .inl d1)), (g4, .inl (E.2.1 0, 7, .inl d4)), (g5, .inl (E.2.1 0, 7, .inl d5)), (g8, .inl (E.2.1 0, 100, .inl d8))] H := hP
        have hD : va_D A [(h0, .inr (5, [.ref of, .ref k1, .ref k2, .ref k3, .ref k4, .int md, .int dn, .int fsu])), (k3, .inl (E.2.1 0, 7, .inl f3)), (k4, .inl (E.2.1 0, 7, .inl (upd f4 (nI dd).toNatClampNeg r_10))), (k1, .inr (3, [.ref of, .ref e1, .ref e2, .ref e3, .ref e4])), (e2, .inl (E.2.1 0, 512, .inl c2)), (g2, .inl (E.2.1 0, 7, .inl d2)), (g3, .inl (E.2.1 0, 7, .inl d3)), (g6, .inl (E.2.1 0, 4, .inl d6)), (g7, .inl (E.2.1 0, 4, .inl d7)), (of, .inr (2, [.ref g1, .ref g2, .ref g3, .ref g4, .ref g5, .int (nI on), .ref g6, .ref g7, .ref g8])), (g1, .inl (E.2.1 0, 7, .inl d1)), (g4, .inl (E.2.1 0, 7, .inl d4)), (g5, .inl (E.2.1 0, 7, .inl d5)), (g8, .inl (E.2.1 0, 100, .inl d8))] := hD
        obtain ⟨f_13, ef_13⟩ : ∃ g : Nat → Int32, g = upd f4 (nI dd).toNatClampNeg r_10 := ⟨_, rfl⟩
        rw [← ef_13] at hP hD
        refine lv_aload_n hx hb dX5_setDays_135 rfl (lv_at hl 1 rfl) ?_
        refine va_get (D := E.1) (ci := 5) (v := .ref k4) (C := RX5) (T := TX5) (N := 8) hx hb hts inX5 hown hK hP 0 rfl rfl 4 (by decide) fl19 (fun _ h9 => h9) rfl dX5_setDays_136 ?_
        refine lv_iload hx hb dX5_setDays_139 (lv_at hl 0 rfl) ?_
        refine va_iald hx hb hK hP 2 0 rfl rfl hi_12 dX5_setDays_141 ?_
        refine lv_topi (fun x_14 ex_14 => ?_)
        refine lv_aload_n hx hb dX5_setDays_142 rfl (lv_at hl 1 rfl) ?_
        refine va_get (D := E.1) (ci := 5) (v := .ref of) (C := RX5) (T := TX5) (N := 8) hx hb hts inX5 hown hK hP 0 rfl rfl 0 (by decide) fl33 (fun _ h9 => h9) rfl dX5_setDays_143 ?_
        refine va_get (D := E.1) (ci := 2) (v := .ref g3) (C := RX2) (T := TX2) (N := 9) hx hb hts inX2 hown hK hP 9 rfl rfl 2 (by decide) fl113 (fun _ h9 => h9) rfl dX5_setDays_146 ?_
        refine lv_iload hx hb dX5_setDays_149 (lv_at hl 0 rfl) ?_
        refine va_iald hx hb hK hP 6 0 rfl rfl hi_12 dX5_setDays_151 ?_
        refine lv_topi (fun x_15 ex_15 => ?_)
        refine lv_iadd hx hb dX5_setDays_152 ?_
        refine lv_topi (fun x_16 ex_16 => ?_)
        refine lv_istore (lv' := [(5, .int x_16), (7, .int (nI dd)), (0, .ref h0), (1, .int (nI cr)), (3, .int od_), (4, .int pv), (6, .int zz)]) hx hb dX5_setDays_153 hl (by decide) rfl (fun ls hl => ?_)
        refine lv_aload_n hx hb dX5_setDays_155 rfl (lv_at hl 2 rfl) ?_
        refine va_get (D := E.1) (ci := 5) (v := .ref of) (C := RX5) (T := TX5) (N := 8) hx hb hts inX5 hown hK hP 0 rfl rfl 0 (by decide) fl33 (fun _ h9 => h9) rfl dX5_setDays_156 ?_
        refine va_get (D := E.1) (ci := 2) (v := .ref g2) (C := RX2) (T := TX2) (N := 9) hx hb hts inX2 hown hK hP 9 rfl rfl 1 (by decide) fl116 (fun _ h9 => h9) rfl dX5_setDays_159 ?_
        refine lv_iload hx hb dX5_setDays_162 (lv_at hl 1 rfl) ?_
        refine va_iald hx hb hK hP 5 0 rfl rfl hi_12 dX5_setDays_164 ?_
        refine lv_topi (fun x_17 ex_17 => ?_)
        refine lv_istore (lv' := [(4, .int x_17), (5, .int x_16), (7, .int (nI dd)), (0, .ref h0), (1, .int (nI cr)), (3, .int od_), (6, .int zz)]) hx hb dX5_setDays_165 hl (by decide) rfl (fun ls hl => ?_)
        obtain ⟨x_18, ex_18⟩ : ∃ y : Int32, y = zz + (-3) := ⟨_, rfl⟩
        refine lv_iinc (v := x_18) (lv' := [(6, .int x_18), (4, .int x_17), (5, .int x_16), (7, .int (nI dd)), (0, .ref h0), (1, .int (nI cr)), (3, .int od_)]) hx hb dX5_setDays_167 hl (k := 6) rfl (by rw [ex_18]; rfl) (by decide) rfl (fun ls hl => ?_)
        refine lv_goto (tgt := 94) hx hb dX5_setDays_170 (by decide) ?_
        exact ih x_17 x_16 x_18 f_13 _ _ _ (by rw [ex_18]; exact sub3 (hn := hn0) c_1) (hP.sub [0, 1, 2, 3, 4, 9, 10, 5, 6, 11, 12, 7, 8, 13] rfl) (hD.sub [0, 1, 2, 3, 4, 9, 10, 5, 6, 11, 12, 7, 8, 13] (by decide) rfl) hS (lv_sub hl [4, 5, 6, 1, 2, 0] rfl)
set_option maxHeartbeats 4000000 in
set_option maxRecDepth 100000 in
theorem c_X5_setDays (l : Launch) (E : vE) (h0 : Nat) (of : Nat) (k1 : Nat) (k2 : Nat) (k3 : Nat) (k4 : Nat) (md : Int32) (dn : Int32) (fsu : Int32) (e1 : Nat) (e2 : Nat) (e3 : Nat) (e4 : Nat) (g1 : Nat) (g2 : Nat) (g3 : Nat) (g4 : Nat) (g5 : Nat) (g6 : Nat) (g7 : Nat) (g8 : Nat) (on : Nat) (d1 : Nat → Int32) (d2 : Nat → Int32) (d3 : Nat → Int32) (d4 : Nat → Int32) (d5 : Nat → Int32) (d6 : Nat → Int32) (d7 : Nat → Int32) (d8 : Nat → Int32) (c2 : Nat → Int32) (f3 : Nat → Int32) (cr : Nat) (f4 : Nat → Int32) (sz : Nat) (hcr : cr < 4) (hd1 : ∀ k, k < 7 → inR (d1 k) 0 9 = true) : Met l yX5_setDays wsX5_setDays ({ frames := 3, cells := 0, slots := 0, locals := 68 }) (pcW E [.ref h0, .int (nI cr)] sz [(h0, .inr (5, [.ref of, .ref k1, .ref k2, .ref k3, .ref k4, .int md, .int dn, .int fsu])), (k3, .inl (E.2.1 0, 7, .inl f3)), (k4, .inl (E.2.1 0, 7, .inl f4)), (k1, .inr (3, [.ref of, .ref e1, .ref e2, .ref e3, .ref e4])), (e2, .inl (E.2.1 0, 512, .inl c2)), (of, .inr (2, [.ref g1, .ref g2, .ref g3, .ref g4, .ref g5, .int (nI on), .ref g6, .ref g7, .ref g8])), (g1, .inl (E.2.1 0, 7, .inl d1)), (g2, .inl (E.2.1 0, 7, .inl d2)), (g3, .inl (E.2.1 0, 7, .inl d3)), (g4, .inl (E.2.1 0, 7, .inl d4)), (g5, .inl (E.2.1 0, 7, .inl d5)), (g6, .inl (E.2.1 0, 4, .inl d6)), (g7, .inl (E.2.1 0, 4, .inl d7)), (g8, .inl (E.2.1 0, 100, .inl d8))]) (va_Qv (fun (f42 : (Nat → Int32)) => True) (fun (f42 : (Nat → Int32)) (t : State) => wB E (va_A [(h0, .inr (5, [.ref of, .ref k1, .ref k2, .ref k3, .ref k4, .int md, .int dn, .int fsu])), (k3, .inl (E.2.1 0, 7, .inl f3)), (k4, .inl (E.2.1 0, 7, .inl f4)), (k1, .inr (3, [.ref of, .ref e1, .ref e2, .ref e3, .ref e4])), (e2, .inl (E.2.1 0, 512, .inl c2)), (of, .inr (2, [.ref g1, .ref g2, .ref g3, .ref g4, .ref g5, .int (nI on), .ref g6, .ref g7, .ref g8])), (g1, .inl (E.2.1 0, 7, .inl d1)), (g2, .inl (E.2.1 0, 7, .inl d2)), (g3, .inl (E.2.1 0, 7, .inl d3)), (g4, .inl (E.2.1 0, 7, .inl d4)), (g5, .inl (E.2.1 0, 7, .inl d5)), (g6, .inl (E.2.1 0, 4, .inl d6)), (g7, .inl (E.2.1 0, 4, .inl d7)), (g8, .inl (E.2.1 0, 100, .inl d8))] sz) [(h0, .inr (5, [.ref of, .ref k1, .ref k2, .ref k3, .ref k4, .int md, .int dn, .int fsu])), (k3, .inl (E.2.1 0, 7, .inl f3)), (k4, .inl (E.2.1 0, 7, .inl f42)), (k1, .inr (3, [.ref of, .ref e1, .ref e2, .ref e3, .ref e4])), (e2, .inl (E.2.1 0, 512, .inl c2)), (of, .inr (2, [.ref g1, .ref g2, .ref g3, .ref g4, .ref g5, .int (nI on), .ref g6, .ref g7, .ref g8])), (g1, .inl (E.2.1 0, 7, .inl d1)), (g2, .inl (E.2.1 0, 7, .inl d2)), (g3, .inl (E.2.1 0, 7, .inl d3)), (g4, .inl (E.2.1 0, 7, .inl d4)), (g5, .inl (E.2.1 0, 7, .inl d5)), (g6, .inl (E.2.1 0, 4, .inl d6)), (g7, .inl (E.2.1 0, 4, .inl d7)), (g8, .inl (E.2.1 0, 100, .inl d8))] t) (va_A [(h0, .inr (5, [.ref of, .ref k1, .ref k2, .ref k3, .ref k4, .int md, .int dn, .int fsu])), (k3, .inl (E.2.1 0, 7, .inl f3)), (k4, .inl (E.2.1 0, 7, .inl f4)), (k1, .inr (3, [.ref of, .ref e1, .ref e2, .ref e3, .ref e4])), (e2, .inl (E.2.1 0, 512, .inl c2)), (of, .inr (2, [.ref g1, .ref g2, .ref g3, .ref g4, .ref g5, .int (nI on), .ref g6, .ref g7, .ref g8])), (g1, .inl (E.2.1 0, 7, .inl d1)), (g2, .inl (E.2.1 0, 7, .inl d2)), (g3, .inl (E.2.1 0, 7, .inl d3)), (g4, .inl (E.2.1 0, 7, .inl d4)), (g5, .inl (E.2.1 0, 7, .inl d5)), (g6, .inl (E.2.1 0, 4, .inl d6)), (g7, .inl (E.2.1 0, 4, .inl d7)), (g8, .inl (E.2.1 0, 100, .inl d8))] sz)) 0 0 (va_A [(h0, .inr (5, [.ref of, .ref k1, .ref k2, .ref k3, .ref k4, .int md, .int dn, .int fsu])), (k3, .inl (E.2.1 0, 7, .inl f3)), (k4, .inl (E.2.1 0, 7, .inl f4)), (k1, .inr (3, [.ref of, .ref e1, .ref e2, .ref e3, .ref e4])), (e2, .inl (E.2.1 0, 512, .inl c2)), (of, .inr (2, [.ref g1, .ref g2, .ref g3, .ref g4, .ref g5, .int (nI on), .ref g6, .ref g7, .ref g8])), (g1, .inl (E.2.1 0, 7, .inl d1)), (g2, .inl (E.2.1 0, 7, .inl d2)), (g3, .inl (E.2.1 0, 7, .inl d3)), (g4, .inl (E.2.1 0, 7, .inl d4)), (g5, .inl (E.2.1 0, 7, .inl d5)), (g6, .inl (E.2.1 0, 4, .inl d6)), (g7, .inl (E.2.1 0, 4, .inl d7)), (g8, .inl (E.2.1 0, 100, .inl d8))] sz) := by
  refine Met.ofW (cc := cX5_setDays) (maxL := 8) (ret := none) (by decide) rfl ?_
  intro p e s m args below meth c s₁ B hml hv
  obtain ⟨rfl, hsz, hP, hkn, hD0, hst⟩ := hv
  have hx := B.exec
  have hb := B.bytes
  have hr := B.returns
  have hts := atoms_spec (ws := wsX5_setDays) B.pre
  have hown : s.vm.findClass RX5 = some m.cls := findClass_of_methodNamed B.named
  have hlocks := B.notSynchronized
  subst hsz
  have hD := hD0.self (sz := s.heap.size)
  have hK := hkn.1
  have hAO := hkn.2.2.1
  generalize hAe : va_A [(h0, .inr (5, [.ref of, .ref k1, .ref k2, .ref k3, .ref k4, .int md, .int dn, .int fsu])), (k3, .inl (E.2.1 0, 7, .inl f3)), (k4, .inl (E.2.1 0, 7, .inl f4)), (k1, .inr (3, [.ref of, .ref e1, .ref e2, .ref e3, .ref e4])), (e2, .inl (E.2.1 0, 512, .inl c2)), (of, .inr (2, [.ref g1, .ref g2, .ref g3, .ref g4, .ref g5, .int (nI on), .ref g6, .ref g7, .ref g8])), (g1, .inl (E.2.1 0, 7, .inl d1)), (g2, .inl (E.2.1 0, 7, .inl d2)), (g3, .inl (E.2.1 0, 7, .inl d3)), (g4, .inl (E.2.1 0, 7, .inl d4)), (g5, .inl (E.2.1 0, 7, .inl d5)), (g6, .inl (E.2.1 0, 4, .inl d6)), (g7, .inl (E.2.1 0, 4, .inl d7)), (g8, .inl (E.2.1 0, 100, .inl d8))] s.heap.size = A at hD hst ⊢
  have hA : ∀ q : Nat, s.heap.size ≤ q → A q := fun q h => by rw [← hAe]; exact Or.inr h
  have hS : va_S A s.heap s.heap [] := va_S.rf
  have hP : va_P E.1 vwCl [(h0, .inr (5, [.ref of, .ref k1, .ref k2, .ref k3, .ref k4, .int md, .int dn, .int fsu])), (k3, .inl (E.2.1 0, 7, .inl f3)), (k4, .inl (E.2.1 0, 7, .inl f4)), (k1, .inr (3, [.ref of, .ref e1, .ref e2, .ref e3, .ref e4])), (e2, .inl (E.2.1 0, 512, .inl c2)), (of, .inr (2, [.ref g1, .ref g2, .ref g3, .ref g4, .ref g5, .int (nI on), .ref g6, .ref g7, .ref g8])), (g1, .inl (E.2.1 0, 7, .inl d1)), (g2, .inl (E.2.1 0, 7, .inl d2)), (g3, .inl (E.2.1 0, 7, .inl d3)), (g4, .inl (E.2.1 0, 7, .inl d4)), (g5, .inl (E.2.1 0, 7, .inl d5)), (g6, .inl (E.2.1 0, 4, .inl d6)), (g7, .inl (E.2.1 0, 4, .inl d7)), (g8, .inl (E.2.1 0, 100, .inl d8))] s.heap := hP
  have hl := lv_entry ([.ref h0, .int (nI cr)]) (n := 8) (Nat.le_of_ble_eq_true rfl)
  rw [lg_entry_eq]
  generalize (lg_sl ([.ref h0, .int (nI cr)]) ++ List.replicate (8 - (lg_sl ([.ref h0, .int (nI cr)])).length) Slot.unset).toArray = ls at hl ⊢
  have hl : lv_has ls 8 [(0, .ref h0), (1, .int (nI cr))] := hl
  have fl15 := hts (.fieldLink RX5 15 "BoatsHome$Plan" "crewOf" "[I") (by first | exact List.mem_of_getElem? (i := 3) rfl | decide +kernel)
  have fl19 := hts (.fieldLink RX5 19 "BoatsHome$Plan" "dayOf" "[I") (by first | exact List.mem_of_getElem? (i := 8) rfl | decide +kernel)
  have fl33 := hts (.fieldLink RX5 33 "BoatsHome$Plan" "offers" "LBoatsHome$Offers;") (by first | exact List.mem_of_getElem? (i := 1) rfl | decide +kernel)
  have fl42 := hts (.fieldLink RX5 42 "BoatsHome$Plan" "orders" "LBoatsHome$Orders;") (by first | exact List.mem_of_getElem? (i := 4) rfl | decide +kernel)
  have fl54 := hts (.fieldLink RX5 54 "BoatsHome$Offers" "crewPorts" "[I") (by first | exact List.mem_of_getElem? (i := 6) rfl | decide +kernel)
  have fl72 := hts (.fieldLink RX5 72 "BoatsHome$Offers" "size" "I") (by first | exact List.mem_of_getElem? (i := 2) rfl | decide +kernel)
  have fl104 := hts (.fieldLink RX5 104 "BoatsHome$Orders" "orders" "[I") (by first | exact List.mem_of_getElem? (i := 5) rfl | decide +kernel)
  have fl106 := hts (.fieldLink RX5 106 "BoatsHome$Offers" "crewDays" "[I") (by first | exact List.mem_of_getElem? (i := 7) rfl | decide +kernel)
  have fl113 := hts (.fieldLink RX5 113 "BoatsHome$Offers" "days" "[I") (by first | exact List.mem_of_getElem? (i := 9) rfl | decide +kernel)
  have fl116 := hts (.fieldLink RX5 116 "BoatsHome$Offers" "to" "[I") (by first | exact List.mem_of_getElem? (i := 10) rfl | decide +kernel)
  have inX2 : ∀ w ∈ u_ws RX2 TX2 9, w ∈ wsX5_setDays := by first | exact fun w h9 => (List.mem_cons_of_mem _ (List.mem_append_left _ (List.mem_append_right _ h9))) | decide +kernel
  have inX3 : ∀ w ∈ u_ws RX3 TX3 5, w ∈ wsX5_setDays := by first | exact fun w h9 => (List.mem_cons_of_mem _ (List.mem_append_right _ h9)) | decide +kernel
  have inX5 : ∀ w ∈ u_ws RX5 TX5 8, w ∈ wsX5_setDays := by first | exact fun w h9 => (List.mem_cons_of_mem _ (List.mem_append_left _ (List.mem_append_left _ (List.mem_append_right _ h9)))) | decide +kernel
  refine lv_iconst (v := 0) hx hb dX5_setDays_0 (by decide) ?_
  refine lv_istore_n (lv' := [(2, .int 0), (0, .ref h0), (1, .int (nI cr))]) hx hb dX5_setDays_1 rfl hl (by decide) rfl (fun ls hl => ?_)
  refine lv_iconst (v := 0) hx hb dX5_setDays_2 (by decide) ?_
  refine lv_istore_n (lv' := [(3, .int 0), (2, .int 0), (0, .ref h0), (1, .int (nI cr))]) hx hb dX5_setDays_3 rfl hl (by decide) rfl (fun ls hl => ?_)
  have hPl := hP.sub (ws' := [(h0, .inr (5, [.ref of, .ref k1, .ref k2, .ref k3, .ref k4, .int md, .int dn, .int fsu])), (k3, .inl (E.2.1 0, 7, .inl f3)), (k4, .inl (E.2.1 0, 7, .inl f4)), (k1, .inr (3, [.ref of, .ref e1, .ref e2, .ref e3, .ref e4])), (e2, .inl (E.2.1 0, 512, .inl c2)), (of, .inr (2, [.ref g1, .ref g2, .ref g3, .ref g4, .ref g5, .int (nI on), .ref g6, .ref g7, .ref g8])), (g1, .inl (E.2.1 0, 7, .inl d1)), (g2, .inl (E.2.1 0, 7, .inl d2)), (g3, .inl (E.2.1 0, 7, .inl d3)), (g4, .inl (E.2.1 0, 7, .inl d4)), (g5, .inl (E.2.1 0, 7, .inl d5)), (g6, .inl (E.2.1 0, 4, .inl d6)), (g7, .inl (E.2.1 0, 4, .inl d7)), (g8, .inl (E.2.1 0, 100, .inl d8))]) [0, 1, 2, 3, 4, 5, 6, 7, 8, 9, 10, 11, 12, 13] rfl
  have hDl := hD.sub (ws' := [(h0, .inr (5, [.ref of, .ref k1, .ref k2, .ref k3, .ref k4, .int md, .int dn, .int fsu])), (k3, .inl (E.2.1 0, 7, .inl f3)), (k4, .inl (E.2.1 0, 7, .inl f4)), (k1, .inr (3, [.ref of, .ref e1, .ref e2, .ref e3, .ref e4])), (e2, .inl (E.2.1 0, 512, .inl c2)), (of, .inr (2, [.ref g1, .ref g2, .ref g3, .ref g4, .ref g5, .int (nI on), .ref g6, .ref g7, .ref g8])), (g1, .inl (E.2.1 0, 7, .inl d1)), (g2, .inl (E.2.1 0, 7, .inl d2)), (g3, .inl (E.2.1 0, 7, .inl d3)), (g4, .inl (E.2.1 0, 7, .inl d4)), (g5, .inl (E.2.1 0, 7, .inl d5)), (g6, .inl (E.2.1 0, 4, .inl d6)), (g7, .inl (E.2.1 0, 4, .inl d7)), (g8, .inl (E.2.1 0, 100, .inl d8))]) [0, 1, 2, 3, 4, 5, 6, 7, 8, 9, 10, 11, 12, 13] (by decide) rfl
  refine lg_days1 E h0 of k1 k2 k3 k4 md dn fsu e1 e2 e3 e4 g1 g2 g3 g4 g5 g6 g7 g8 on d1 d2 d3 d4 d5 d6 d7 d8 c2 f3 cr f4 hx hb hml hown hts hkn hst hA  (fun n_1 H locs ls hsv hP hD hS hl => ?_) 8 0 0 _ _ _ (by omega) (by omega) (by omega) hPl hDl hS (lv_sub hl [2, 3, 1, 0] rfl)
  have hP : va_P E.1 vwCl [(h0, .inr (5, [.ref of, .ref k1, .ref k2, .ref k3, .ref k4, .int md, .int dn, .int fsu])), (k3, .inl (E.2.1 0, 7, .inl f3)), (k4, .inl (E.2.1 0, 7, .inl f4)), (k1, .inr (3, [.ref of, .ref e1, .ref e2, .ref e3, .ref e4])), (e2, .inl (E.2.1 0, 512, .inl c2)), (of, .inr (2, [.ref g1, .ref g2, .ref g3, .ref g4, .ref g5, .int (nI on), .ref g6, .ref g7, .ref g8])), (g1, .inl (E.2.1 0, 7, .inl d1)), (g2, .inl (E.2.1 0, 7, .inl d2)), (g3, .inl (E.2.1 0, 7, .inl d3)), (g4, .inl (E.2.1 0, 7, .inl d4)), (g5, .inl (E.2.1 0, 7, .inl d5)), (g6, .inl (E.2.1 0, 4, .inl d6)), (g7, .inl (E.2.1 0, 4, .inl d7)), (g8, .inl (E.2.1 0, 100, .inl d8))] H := hP
  have hD : va_D A [(h0, .inr (5, [.ref of, .ref k1, .ref k2, .ref k3, .ref k4, .int md, .int dn, .int fsu])), (k3, .inl (E.2.1 0, 7, .inl f3)), (k4, .inl (E.2.1 0, 7, .inl f4)), (k1, .inr (3, [.ref of, .ref e1, .ref e2, .ref e3, .ref e4])), (e2, .inl (E.2.1 0, 512, .inl c2)), (of, .inr (2, [.ref g1, .ref g2, .ref g3, .ref g4, .ref g5, .int (nI on), .ref g6, .ref g7, .ref g8])), (g1, .inl (E.2.1 0, 7, .inl d1)), (g2, .inl (E.2.1 0, 7, .inl d2)), (g3, .inl (E.2.1 0, 7, .inl d3)), (g4, .inl (E.2.1 0, 7, .inl d4)), (g5, .inl (E.2.1 0, 7, .inl d5)), (g6, .inl (E.2.1 0, 4, .inl d6)), (g7, .inl (E.2.1 0, 4, .inl d7)), (g8, .inl (E.2.1 0, 100, .inl d8))] := hD
  refine lv_iload_n hx hb dX5_setDays_47 rfl (lv_at hl 2 rfl) ?_
  refine lv_if_ne (tgt := 52) hx hb dX5_setDays_48 (by decide) (fun c_2 => ?_) (fun c_2 => ?_)
  · refine lv_aload_n hx hb dX5_setDays_52 rfl (lv_at hl 0 rfl) ?_
    refine va_get (D := E.1) (ci := 5) (v := .ref k1) (C := RX5) (T := TX5) (N := 8) hx hb hts inX5 hown hK hP 0 rfl rfl 1 (by decide) fl42 (fun _ h9 => h9) rfl dX5_setDays_53 ?_
    refine va_get (D := E.1) (ci := 3) (v := .ref e2) (C := RX3) (T := TX3) (N := 5) hx hb hts inX3 hown hK hP 3 rfl rfl 2 (by decide) fl104 (fun _ h9 => h9) rfl dX5_setDays_56 ?_
    refine lv_iload_n hx hb dX5_setDays_59 rfl (lv_at hl 1 rfl) ?_
    refine lv_sipush (v := 128) hx hb dX5_setDays_60 (by decide) ?_
    refine lv_imul hx hb dX5_setDays_63 ?_
    refine lv_topi (fun x_3 ex_3 => ?_)
    obtain rfl : x_3 = nI (cr * 128) := ex_3.trans (pk_mul cr 128)
    refine lv_iload_n hx hb dX5_setDays_64 rfl (lv_at hl 2 rfl) ?_
    refine lv_iadd hx hb dX5_setDays_65 ?_
    refine lv_topi (fun x_4 ex_4 => ?_)
    obtain rfl : x_4 = nI ((cr * 128) + n_1) := ex_4.trans (nI_add (cr * 128) n_1)
    have hi_5 : vp_in (nI ((cr * 128) + n_1)) 512 := vp_in_nI (by omega) (by decide)
    refine va_iald hx hb hK hP 4 0 rfl rfl hi_5 dX5_setDays_66 ?_
    refine lv_topi (fun x_6 ex_6 => ?_)
    refine lv_istore_n (lv' := [(3, .int x_6), (0, .ref h0), (1, .int (nI cr)), (2, .int (nI n_1))]) hx hb dX5_setDays_67 rfl hl (by decide) rfl (fun ls hl => ?_)
    refine lv_aload_n hx hb dX5_setDays_68 rfl (lv_at hl 1 rfl) ?_
    refine va_get (D := E.1) (ci := 5) (v := .ref of) (C := RX5) (T := TX5) (N := 8) hx hb hts inX5 hown hK hP 0 rfl rfl 0 (by decide) fl33 (fun _ h9 => h9) rfl dX5_setDays_69 ?_
    refine va_get (D := E.1) (ci := 2) (v := .ref g6) (C := RX2) (T := TX2) (N := 9) hx hb hts inX2 hown hK hP 5 rfl rfl 6 (by decide) fl54 (fun _ h9 => h9) rfl dX5_setDays_72 ?_
    refine lv_iload_n hx hb dX5_setDays_75 rfl (lv_at hl 2 rfl) ?_
    have hi_7 : vp_in (nI cr) 4 := vp_in_nI hcr (by decide)
    refine va_iald hx hb hK hP 11 0 rfl rfl hi_7 dX5_setDays_76 ?_
    refine lv_topi (fun x_8 ex_8 => ?_)
    refine lv_istore (lv' := [(4, .int x_8), (3, .int x_6), (0, .ref h0), (1, .int (nI cr)), (2, .int (nI n_1))]) hx hb dX5_setDays_77 hl (by decide) rfl (fun ls hl => ?_)
    refine lv_aload_n hx hb dX5_setDays_79 rfl (lv_at hl 2 rfl) ?_
    refine va_get (D := E.1) (ci := 5) (v := .ref of) (C := RX5) (T := TX5) (N := 8) hx hb hts inX5 hown hK hP 0 rfl rfl 0 (by decide) fl33 (fun _ h9 => h9) rfl dX5_setDays_80 ?_
    refine va_get (D := E.1) (ci := 2) (v := .ref g7) (C := RX2) (T := TX2) (N := 9) hx hb hts inX2 hown hK hP 5 rfl rfl 7 (by decide) fl106 (fun _ h9 => h9) rfl dX5_setDays_83 ?_
    refine lv_iload_n hx hb dX5_setDays_86 rfl (lv_at hl 3 rfl) ?_
    refine va_iald hx hb hK hP 12 0 rfl rfl hi_7 dX5_setDays_87 ?_
    refine lv_topi (fun x_9 ex_9 => ?_)
    refine lv_istore (lv' := [(5, .int x_9), (4, .int x_8), (3, .int x_6), (0, .ref h0), (1, .int (nI cr)), (2, .int (nI n_1))]) hx hb dX5_setDays_88 hl (by decide) rfl (fun ls hl => ?_)
    refine lv_bipush (v := 18) hx hb dX5_setDays_90 (by decide) ?_
    refine lv_istore (lv' := [(6, .int 18), (5, .int x_9), (4, .int x_8), (3, .int x_6), (0, .ref h0), (1, .int (nI cr)), (2, .int (nI n_1))]) hx hb dX5_setDays_92 hl (by decide) rfl (fun ls hl => ?_)
    have hPl := hP.sub (ws' := [(h0, .inr (5, [.ref of, .ref k1, .ref k2, .ref k3, .ref k4, .int md, .int dn, .int fsu])), (k3, .inl (E.2.1 0, 7, .inl f3)), (k4, .inl (E.2.1 0, 7, .inl f4)), (k1, .inr (3, [.ref of, .ref e1, .ref e2, .ref e3, .ref e4])), (e2, .inl (E.2.1 0, 512, .inl c2)), (of, .inr (2, [.ref g1, .ref g2, .ref g3, .ref g4, .ref g5, .int (nI on), .ref g6, .ref g7, .ref g8])), (g1, .inl (E.2.1 0, 7, .inl d1)), (g2, .inl (E.2.1 0, 7, .inl d2)), (g3, .inl (E.2.1 0, 7, .inl d3)), (g4, .inl (E.2.1 0, 7, .inl d4)), (g5, .inl (E.2.1 0, 7, .inl d5)), (g6, .inl (E.2.1 0, 4, .inl d6)), (g7, .inl (E.2.1 0, 4, .inl d7)), (g8, .inl (E.2.1 0, 100, .inl d8))]) [0, 1, 2, 3, 4, 5, 6, 7, 8, 9, 10, 11, 12, 13] rfl
    have hDl := hD.sub (ws' := [(h0, .inr (5, [.ref of, .ref k1, .ref k2, .ref k3, .ref k4, .int md, .int dn, .int fsu])), (k3, .inl (E.2.1 0, 7, .inl f3)), (k4, .inl (E.2.1 0, 7, .inl f4)), (k1, .inr (3, [.ref of, .ref e1, .ref e2, .ref e3, .ref e4])), (e2, .inl (E.2.1 0, 512, .inl c2)), (of, .inr (2, [.ref g1, .ref g2, .ref g3, .ref g4, .ref g5, .int (nI on), .ref g6, .ref g7, .ref g8])), (g1, .inl (E.2.1 0, 7, .inl d1)), (g2, .inl (E.2.1 0, 7, .inl d2)), (g3, .inl (E.2.1 0, 7, .inl d3)), (g4, .inl (E.2.1 0, 7, .inl d4)), (g5, .inl (E.2.1 0, 7, .inl d5)), (g6, .inl (E.2.1 0, 4, .inl d6)), (g7, .inl (E.2.1 0, 4, .inl d7)), (g8, .inl (E.2.1 0, 100, .inl d8))]) [0, 1, 2, 3, 4, 5, 6, 7, 8, 9, 10, 11, 12, 13] (by decide) rfl
    refine lg_days2 E h0 of k1 k2 k3 k4 md dn fsu e1 e2 e3 e4 g1 g2 g3 g4 g5 g6 g7 g8 on d1 d2 d3 d4 d5 d6 d7 d8 c2 f3 cr x_6 hx hb hml hown hts hkn hst hA hd1 (fun n_10 H locs ls  hP hD hS hl => ?_) 22 x_8 x_9 18 f4 _ _ _ (by decide) hPl hDl hS (lv_sub hl [4, 5, 3, 2, 1, 0] rfl)
    have hP : va_P E.1 vwCl [(h0, .inr (5, [.ref of, .ref k1, .ref k2, .ref k3, .ref k4, .int md, .int dn, .int fsu])), (k3, .inl (E.2.1 0, 7, .inl f3)), (k4, .inl (E.2.1 0, 7, .inl n_10)), (k1, .inr (3, [.ref of, .ref e1, .ref e2, .ref e3, .ref e4])), (e2, .inl (E.2.1 0, 512, .inl c2)), (of, .inr (2, [.ref g1, .ref g2, .ref g3, .ref g4, .ref g5, .int (nI on), .ref g6, .ref g7, .ref g8])), (g1, .inl (E.2.1 0, 7, .inl d1)), (g2, .inl (E.2.1 0, 7, .inl d2)), (g3, .inl (E.2.1 0, 7, .inl d3)), (g4, .inl (E.2.1 0, 7, .inl d4)), (g5, .inl (E.2.1 0, 7, .inl d5)), (g6, .inl (E.2.1 0, 4, .inl d6)), (g7, .inl (E.2.1 0, 4, .inl d7)), (g8, .inl (E.2.1 0, 100, .inl d8))] H := hP
    have hD : va_D A [(h0, .inr (5, [.ref of, .ref k1, .ref k2, .ref k3, .ref k4, .int md, .int dn, .int fsu])), (k3, .inl (E.2.1 0, 7, .inl f3)), (k4, .inl (E.2.1 0, 7, .inl n_10)), (k1, .inr (3, [.ref of, .ref e1, .ref e2, .ref e3, .ref e4])), (e2, .inl (E.2.1 0, 512, .inl c2)), (of, .inr (2, [.ref g1, .ref g2, .ref g3, .ref g4, .ref g5, .int (nI on), .ref g6, .ref g7, .ref g8])), (g1, .inl (E.2.1 0, 7, .inl d1)), (g2, .inl (E.2.1 0, 7, .inl d2)), (g3, .inl (E.2.1 0, 7, .inl d3)), (g4, .inl (E.2.1 0, 7, .inl d4)), (g5, .inl (E.2.1 0, 7, .inl d5)), (g6, .inl (E.2.1 0, 4, .inl d6)), (g7, .inl (E.2.1 0, 4, .inl d7)), (g8, .inl (E.2.1 0, 100, .inl d8))] := hD
    have hP9 := hP.sub (ws' := [(h0, .inr (5, [.ref of, .ref k1, .ref k2, .ref k3, .ref k4, .int md, .int dn, .int fsu])), (k3, .inl (E.2.1 0, 7, .inl f3)), (k4, .inl (E.2.1 0, 7, .inl n_10)), (k1, .inr (3, [.ref of, .ref e1, .ref e2, .ref e3, .ref e4])), (e2, .inl (E.2.1 0, 512, .inl c2)), (of, .inr (2, [.ref g1, .ref g2, .ref g3, .ref g4, .ref g5, .int (nI on), .ref g6, .ref g7, .ref g8])), (g1, .inl (E.2.1 0, 7, .inl d1)), (g2, .inl (E.2.1 0, 7, .inl d2)), (g3, .inl (E.2.1 0, 7, .inl d3)), (g4, .inl (E.2.1 0, 7, .inl d4)), (g5, .inl (E.2.1 0, 7, .inl d5)), (g6, .inl (E.2.1 0, 4, .inl d6)), (g7, .inl (E.2.1 0, 4, .inl d7)), (g8, .inl (E.2.1 0, 100, .inl d8))]) [0, 1, 2, 3, 4, 5, 6, 7, 8, 9, 10, 11, 12, 13] rfl
    have hD9 := hD.sub (ws' := [(h0, .inr (5, [.ref of, .ref k1, .ref k2, .ref k3, .ref k4, .int md, .int dn, .int fsu])), (k3, .inl (E.2.1 0, 7, .inl f3)), (k4, .inl (E.2.1 0, 7, .inl n_10)), (k1, .inr (3, [.ref of, .ref e1, .ref e2, .ref e3, .ref e4])), (e2, .inl (E.2.1 0, 512, .inl c2)), (of, .inr (2, [.ref g1, .ref g2, .ref g3, .ref g4, .ref g5, .int (nI on), .ref g6, .ref g7, .ref g8])), (g1, .inl (E.2.1 0, 7, .inl d1)), (g2, .inl (E.2.1 0, 7, .inl d2)), (g3, .inl (E.2.1 0, 7, .inl d3)), (g4, .inl (E.2.1 0, 7, .inl d4)), (g5, .inl (E.2.1 0, 7, .inl d5)), (g6, .inl (E.2.1 0, 4, .inl d6)), (g7, .inl (E.2.1 0, 4, .inl d7)), (g8, .inl (E.2.1 0, 100, .inl d8))]) [0, 1, 2, 3, 4, 5, 6, 7, 8, 9, 10, 11, 12, 13] (by decide) rfl
    exact W.vret hx hb hr (fun t ht hW => ⟨⟨n_10, rfl, trivial, by rw [ht]; exact hP9, hD9⟩, hS.F ht⟩) hS.2.2 dX5_setDays_173
  · have hP9 := hP.sub (ws' := [(h0, .inr (5, [.ref of, .ref k1, .ref k2, .ref k3, .ref k4, .int md, .int dn, .int fsu])), (k3, .inl (E.2.1 0, 7, .inl f3)), (k4, .inl (E.2.1 0, 7, .inl f4)), (k1, .inr (3, [.ref of, .ref e1, .ref e2, .ref e3, .ref e4])), (e2, .inl (E.2.1 0, 512, .inl c2)), (of, .inr (2, [.ref g1, .ref g2, .ref g3, .ref g4, .ref g5, .int (nI on), .ref g6, .ref g7, .ref g8])), (g1, .inl (E.2.1 0, 7, .inl d1)), (g2, .inl (E.2.1 0, 7, .inl d2)), (g3, .inl (E.2.1 0, 7, .inl d3)), (g4, .inl (E.2.1 0, 7, .inl d4)), (g5, .inl (E.2.1 0, 7, .inl d5)), (g6, .inl (E.2.1 0, 4, .inl d6)), (g7, .inl (E.2.1 0, 4, .inl d7)), (g8, .inl (E.2.1 0, 100, .inl d8))]) [0, 1, 2, 3, 4, 5, 6, 7, 8, 9, 10, 11, 12, 13] rfl
    have hD9 := hD.sub (ws' := [(h0, .inr (5, [.ref of, .ref k1, .ref k2, .ref k3, .ref k4, .int md, .int dn, .int fsu])), (k3, .inl (E.2.1 0, 7, .inl f3)), (k4, .inl (E.2.1 0, 7, .inl f4)), (k1, .inr (3, [.ref of, .ref e1, .ref e2, .ref e3, .ref e4])), (e2, .inl (E.2.1 0, 512, .inl c2)), (of, .inr (2, [.ref g1, .ref g2, .ref g3, .ref g4, .ref g5, .int (nI on), .ref g6, .ref g7, .ref g8])), (g1, .inl (E.2.1 0, 7, .inl d1)), (g2, .inl (E.2.1 0, 7, .inl d2)), (g3, .inl (E.2.1 0, 7, .inl d3)), (g4, .inl (E.2.1 0, 7, .inl d4)), (g5, .inl (E.2.1 0, 7, .inl d5)), (g6, .inl (E.2.1 0, 4, .inl d6)), (g7, .inl (E.2.1 0, 4, .inl d7)), (g8, .inl (E.2.1 0, 100, .inl d8))]) [0, 1, 2, 3, 4, 5, 6, 7, 8, 9, 10, 11, 12, 13] (by decide) rfl
    exact W.vret hx hb hr (fun t ht hW => ⟨⟨f4, rfl, trivial, by rw [ht]; exact hP9, hD9⟩, hS.F ht⟩) hS.2.2 dX5_setDays_51
