set_option maxHeartbeats 4000000 in
set_option maxRecDepth 100000 in
theorem lg_search {p : Program} {l : Launch} {e : Env} {R : Room} {s : State} {m : MethodId} {args : Array Value} {below : List Frame} {meth : Method} {c : Code} {cells slots : Nat} {Q : State → Prop} {A : Nat → Prop} (E : vE) (h0 : Nat) (of : Nat) (e1 : Nat) (e2 : Nat) (e3 : Nat) (e4 : Nat) (cr : Nat) (wr : va_W) (hx : p.tables.exec = Jvm.exec) (hb : c.code = cX3_search) (hml : c.maxLocals = 3) (hown : s.vm.findClass RX3 = some m.cls) (hts : ∀ w ∈ wsX3_search, w.before args s = true) (hkn : kn E s) (hst : st E A s s.heap) (hA : ∀ q : Nat, s.heap.size ≤ q → A q) (hcr : cr < 4) (kk : ∀ (c1 : Nat → Int32) (H : Heap) (locs : List Loc) (ls : Array Slot), va_P E.1 vwCl ((h0, .inr (3, [.ref of, .ref e1, .ref e2, .ref e3, .ref e4])) :: (e1, .inl (E.2.1 0, 512, .inl c1)) :: wr) H → va_D A ((h0, .inr (3, [.ref of, .ref e1, .ref e2, .ref e3, .ref e4])) :: (e1, .inl (E.2.1 0, 512, .inl c1)) :: wr) → va_S A s.heap H locs → lv_has ls 3 [(0, .ref h0), (1, .int (nI cr))] → W p l e R s m args below meth c H locs cells slots Q (F0 m 28 ls [])) : ∀ (n0 : Nat) (k : Nat) (c1 : Nat → Int32) (H : Heap) (locs : List Loc) (ls : Array Slot), 128 - k < n0 → (k ≤ 128) → va_P E.1 vwCl ((h0, .inr (3, [.ref of, .ref e1, .ref e2, .ref e3, .ref e4])) :: (e1, .inl (E.2.1 0, 512, .inl c1)) :: wr) H → va_D A ((h0, .inr (3, [.ref of, .ref e1, .ref e2, .ref e3, .ref e4])) :: (e1, .inl (E.2.1 0, 512, .inl c1)) :: wr) → va_S A s.heap H locs → lv_has ls 3 [(0, .ref h0), (1, .int (nI cr)), (2, .int (nI k))] → W p l e R s m args below meth c H locs cells slots Q (F0 m 2 ls []) := by
  have hK := hkn.1
  have hAO := hkn.2.2.1
  have fl9 := hts (.fieldLink RX3 9 "BoatsHome$Orders" "costs" "[I") (by first | exact List.mem_of_getElem? (i := 1) rfl | decide +kernel)
  have fl18 := hts (.fieldLink RX3 18 "BoatsHome$Orders" "seenDays" "[I") (by first | exact List.mem_of_getElem? (i := 2) rfl | decide +kernel)
  have fl21 := hts (.fieldLink RX3 21 "BoatsHome$Orders" "seenCosts" "[I") (by first | exact List.mem_of_getElem? (i := 4) rfl | decide +kernel)
  have fl24 := hts (.fieldLink RX3 24 "BoatsHome$Orders" "offers" "LBoatsHome$Offers;") (by first | exact List.mem_of_getElem? (i := 5) rfl | decide +kernel)
  have fl35 := hts (.fieldLink RX3 35 "BoatsHome$Offers" "crewPorts" "[I") (by first | exact List.mem_of_getElem? (i := 6) rfl | decide +kernel)
  have fl40 := hts (.fieldLink RX3 40 "BoatsHome$Offers" "crewDays" "[I") (by first | exact List.mem_of_getElem? (i := 7) rfl | decide +kernel)
  have inX2 : ∀ w ∈ u_ws RX2 TX2 9, w ∈ wsX3_search := by first | exact fun w h9 => (List.mem_cons_of_mem _ (List.mem_append_right _ h9)) | decide +kernel
  have inX3 : ∀ w ∈ u_ws RX3 TX3 5, w ∈ wsX3_search := by first | exact fun w h9 => (List.mem_cons_of_mem _ (List.mem_append_left _ (List.mem_append_right _ h9))) | decide +kernel
  intro n0
  induction n0 with
  | zero =>
    intro k c1 H locs ls hn0
    exact absurd hn0 (Nat.not_lt_zero _)
  | succ n0 ih =>
    intro k c1 H locs ls hn0 hk hP hD hS hl
    refine lv_iload_n hx hb dX3_search_2 rfl (lv_at hl 2 rfl) ?_
    refine lv_sipush (v := 128) hx hb dX3_search_3 (by decide) ?_
    refine lv_icmp_ge (tgt := 28) hx hb dX3_search_6 (by decide) (fun c_1 => ?_) (fun c_1 => ?_)
    · exact kk c1 _ _ _  hP hD hS (lv_sub hl [0, 1] rfl)
    · have hlt : k < 128 := by
        rcases Nat.lt_or_ge k 128 with q | q
        · exact q
        · exact absurd (show (128 : Int32) ≤ nI k from nI_le (a := 128) q (by omega)) c_1
      refine lv_aload_n hx hb dX3_search_9 rfl (lv_at hl 0 rfl) ?_
      refine va_get (D := E.1) (ci := 3) (v := .ref e1) (C := RX3) (T := TX3) (N := 5) hx hb hts inX3 hown hK hP 0 rfl rfl 1 (by decide) fl9 (fun _ h9 => h9) rfl dX3_search_10 ?_
      refine lv_iload_n hx hb dX3_search_13 rfl (lv_at hl 1 rfl) ?_
      refine lv_sipush (v := 128) hx hb dX3_search_14 (by decide) ?_
      refine lv_imul hx hb dX3_search_17 ?_
      refine lv_topi (fun x_2 ex_2 => ?_)
      obtain rfl : x_2 = nI (cr * 128) := ex_2.trans (pk_mul cr 128)
      refine lv_iload_n hx hb dX3_search_18 rfl (lv_at hl 2 rfl) ?_
      refine lv_iadd hx hb dX3_search_19 ?_
      refine lv_topi (fun x_3 ex_3 => ?_)
      obtain rfl : x_3 = nI ((cr * 128) + k) := ex_3.trans (nI_add (cr * 128) k)
      refine lv_iconst (v := (-1)) hx hb dX3_search_20 (by decide) ?_
      have hi_4 : vp_in (nI ((cr * 128) + k)) 512 := vp_in_nI (by omega) (by decide)
      refine va_iast hx hb hK hP hD hS 1 0 rfl rfl hi_4 dX3_search_21 (fun H locs hP hD hS => ?_)
      have hP : va_P E.1 vwCl ((h0, .inr (3, [.ref of, .ref e1, .ref e2, .ref e3, .ref e4])) :: (e1, .inl (E.2.1 0, 512, .inl (upd c1 (nI ((cr * 128) + k)).toNatClampNeg (-1)))) :: wr) H := hP
      have hD : va_D A ((h0, .inr (3, [.ref of, .ref e1, .ref e2, .ref e3, .ref e4])) :: (e1, .inl (E.2.1 0, 512, .inl (upd c1 (nI ((cr * 128) + k)).toNatClampNeg (-1)))) :: wr) := hD
      obtain ⟨f_5, ef_5⟩ : ∃ g : Nat → Int32, g = upd c1 (nI ((cr * 128) + k)).toNatClampNeg (-1) := ⟨_, rfl⟩
      rw [← ef_5] at hP hD
      refine lv_iinc (v := (nI (k + 1))) (lv' := [(2, .int (nI (k + 1))), (0, .ref h0), (1, .int (nI cr))]) hx hb dX3_search_22 hl (k := 2) rfl (show nI k + 1 = nI (k + 1) from nI_1 k) (by decide) rfl (fun ls hl => ?_)
      refine lv_goto (tgt := 2) hx hb dX3_search_25 (by decide) ?_
      exact ih (k + 1) f_5 _ _ _ (by omega) (by omega) hP hD hS (lv_sub hl [1, 2, 0] rfl)
set_option maxHeartbeats 4000000 in
set_option maxRecDepth 100000 in
theorem c_X3_search (l : Launch) (E : vE) (h0 : Nat) (of : Nat) (e1 : Nat) (e2 : Nat) (e3 : Nat) (e4 : Nat) (g1 : Nat) (g2 : Nat) (g3 : Nat) (g4 : Nat) (g5 : Nat) (g6 : Nat) (g7 : Nat) (g8 : Nat) (on : Nat) (d1 : Nat → Int32) (d2 : Nat → Int32) (d3 : Nat → Int32) (d4 : Nat → Int32) (d5 : Nat → Int32) (d6 : Nat → Int32) (d7 : Nat → Int32) (d8 : Nat → Int32) (cr : Nat) (c1 : Nat → Int32) (c2 : Nat → Int32) (c3 : Nat → Int32) (c4 : Nat → Int32) (sz : Nat) (hcr : cr < 4) (hd1 : ∀ k, k < 7 → inR (d1 k) 0 9 = true) : Met l yX3_search wsX3_search ({ frames := 11, cells := 0, slots := 0, locals := 324 }) (pcW E [.ref h0, .int (nI cr)] sz [(h0, .inr (3, [.ref of, .ref e1, .ref e2, .ref e3, .ref e4])), (of, .inr (2, [.ref g1, .ref g2, .ref g3, .ref g4, .ref g5, .int (nI on), .ref g6, .ref g7, .ref g8])), (g1, .inl (E.2.1 0, 7, .inl d1)), (g2, .inl (E.2.1 0, 7, .inl d2)), (g3, .inl (E.2.1 0, 7, .inl d3)), (g4, .inl (E.2.1 0, 7, .inl d4)), (g5, .inl (E.2.1 0, 7, .inl d5)), (g6, .inl (E.2.1 0, 4, .inl d6)), (g7, .inl (E.2.1 0, 4, .inl d7)), (g8, .inl (E.2.1 0, 100, .inl d8)), (e1, .inl (E.2.1 0, 512, .inl c1)), (e2, .inl (E.2.1 0, 512, .inl c2)), (e3, .inl (E.2.1 0, 896, .inl c3)), (e4, .inl (E.2.1 0, 896, .inl c4))]) (va_Qv (fun (u : (Nat → Int32) × (Nat → Int32) × (Nat → Int32) × (Nat → Int32)) => match u with | (c12, c22, c32, c42) => True) (fun (u : (Nat → Int32) × (Nat → Int32) × (Nat → Int32) × (Nat → Int32)) (t : State) => match u with | (c12, c22, c32, c42) => wB E (va_A [(h0, .inr (3, [.ref of, .ref e1, .ref e2, .ref e3, .ref e4])), (of, .inr (2, [.ref g1, .ref g2, .ref g3, .ref g4, .ref g5, .int (nI on), .ref g6, .ref g7, .ref g8])), (g1, .inl (E.2.1 0, 7, .inl d1)), (g2, .inl (E.2.1 0, 7, .inl d2)), (g3, .inl (E.2.1 0, 7, .inl d3)), (g4, .inl (E.2.1 0, 7, .inl d4)), (g5, .inl (E.2.1 0, 7, .inl d5)), (g6, .inl (E.2.1 0, 4, .inl d6)), (g7, .inl (E.2.1 0, 4, .inl d7)), (g8, .inl (E.2.1 0, 100, .inl d8)), (e1, .inl (E.2.1 0, 512, .inl c1)), (e2, .inl (E.2.1 0, 512, .inl c2)), (e3, .inl (E.2.1 0, 896, .inl c3)), (e4, .inl (E.2.1 0, 896, .inl c4))] sz) [(h0, .inr (3, [.ref of, .ref e1, .ref e2, .ref e3, .ref e4])), (of, .inr (2, [.ref g1, .ref g2, .ref g3, .ref g4, .ref g5, .int (nI on), .ref g6, .ref g7, .ref g8])), (g1, .inl (E.2.1 0, 7, .inl d1)), (g2, .inl (E.2.1 0, 7, .inl d2)), (g3, .inl (E.2.1 0, 7, .inl d3)), (g4, .inl (E.2.1 0, 7, .inl d4)), (g5, .inl (E.2.1 0, 7, .inl d5)), (g6, .inl (E.2.1 0, 4, .inl d6)), (g7, .inl (E.2.1 0, 4, .inl d7)), (g8, .inl (E.2.1 0, 100, .inl d8)), (e1, .inl (E.2.1 0, 512, .inl c12)), (e2, .inl (E.2.1 0, 512, .inl c22)), (e3, .inl (E.2.1 0, 896, .inl c32)), (e4, .inl (E.2.1 0, 896, .inl c42))] t) (va_A [(h0, .inr (3, [.ref of, .ref e1, .ref e2, .ref e3, .ref e4])), (of, .inr (2, [.ref g1, .ref g2, .ref g3, .ref g4, .ref g5, .int (nI on), .ref g6, .ref g7, .ref g8])), (g1, .inl (E.2.1 0, 7, .inl d1)), (g2, .inl (E.2.1 0, 7, .inl d2)), (g3, .inl (E.2.1 0, 7, .inl d3)), (g4, .inl (E.2.1 0, 7, .inl d4)), (g5, .inl (E.2.1 0, 7, .inl d5)), (g6, .inl (E.2.1 0, 4, .inl d6)), (g7, .inl (E.2.1 0, 4, .inl d7)), (g8, .inl (E.2.1 0, 100, .inl d8)), (e1, .inl (E.2.1 0, 512, .inl c1)), (e2, .inl (E.2.1 0, 512, .inl c2)), (e3, .inl (E.2.1 0, 896, .inl c3)), (e4, .inl (E.2.1 0, 896, .inl c4))] sz)) 0 0 (va_A [(h0, .inr (3, [.ref of, .ref e1, .ref e2, .ref e3, .ref e4])), (of, .inr (2, [.ref g1, .ref g2, .ref g3, .ref g4, .ref g5, .int (nI on), .ref g6, .ref g7, .ref g8])), (g1, .inl (E.2.1 0, 7, .inl d1)), (g2, .inl (E.2.1 0, 7, .inl d2)), (g3, .inl (E.2.1 0, 7, .inl d3)), (g4, .inl (E.2.1 0, 7, .inl d4)), (g5, .inl (E.2.1 0, 7, .inl d5)), (g6, .inl (E.2.1 0, 4, .inl d6)), (g7, .inl (E.2.1 0, 4, .inl d7)), (g8, .inl (E.2.1 0, 100, .inl d8)), (e1, .inl (E.2.1 0, 512, .inl c1)), (e2, .inl (E.2.1 0, 512, .inl c2)), (e3, .inl (E.2.1 0, 896, .inl c3)), (e4, .inl (E.2.1 0, 896, .inl c4))] sz) := by
  refine Met.ofW (cc := cX3_search) (maxL := 3) (ret := none) (by decide) rfl ?_
  intro p e s m args below meth c s₁ B hml hv
  obtain ⟨rfl, hsz, hP, hkn, hD0, hst⟩ := hv
  have hx := B.exec
  have hb := B.bytes
  have hr := B.returns
  have hts := atoms_spec (ws := wsX3_search) B.pre
  have hown : s.vm.findClass RX3 = some m.cls := findClass_of_methodNamed B.named
  have hlocks := B.notSynchronized
  subst hsz
  have hD := hD0.self (sz := s.heap.size)
  have hK := hkn.1
  have hAO := hkn.2.2.1
  generalize hAe : va_A [(h0, .inr (3, [.ref of, .ref e1, .ref e2, .ref e3, .ref e4])), (of, .inr (2, [.ref g1, .ref g2, .ref g3, .ref g4, .ref g5, .int (nI on), .ref g6, .ref g7, .ref g8])), (g1, .inl (E.2.1 0, 7, .inl d1)), (g2, .inl (E.2.1 0, 7, .inl d2)), (g3, .inl (E.2.1 0, 7, .inl d3)), (g4, .inl (E.2.1 0, 7, .inl d4)), (g5, .inl (E.2.1 0, 7, .inl d5)), (g6, .inl (E.2.1 0, 4, .inl d6)), (g7, .inl (E.2.1 0, 4, .inl d7)), (g8, .inl (E.2.1 0, 100, .inl d8)), (e1, .inl (E.2.1 0, 512, .inl c1)), (e2, .inl (E.2.1 0, 512, .inl c2)), (e3, .inl (E.2.1 0, 896, .inl c3)), (e4, .inl (E.2.1 0, 896, .inl c4))] s.heap.size = A at hD hst ⊢
  have hA : ∀ q : Nat, s.heap.size ≤ q → A q := fun q h => by rw [← hAe]; exact Or.inr h
  have hS : va_S A s.heap s.heap [] := va_S.rf
  have hP : va_P E.1 vwCl [(h0, .inr (3, [.ref of, .ref e1, .ref e2, .ref e3, .ref e4])), (of, .inr (2, [.ref g1, .ref g2, .ref g3, .ref g4, .ref g5, .int (nI on), .ref g6, .ref g7, .ref g8])), (g1, .inl (E.2.1 0, 7, .inl d1)), (g2, .inl (E.2.1 0, 7, .inl d2)), (g3, .inl (E.2.1 0, 7, .inl d3)), (g4, .inl (E.2.1 0, 7, .inl d4)), (g5, .inl (E.2.1 0, 7, .inl d5)), (g6, .inl (E.2.1 0, 4, .inl d6)), (g7, .inl (E.2.1 0, 4, .inl d7)), (g8, .inl (E.2.1 0, 100, .inl d8)), (e1, .inl (E.2.1 0, 512, .inl c1)), (e2, .inl (E.2.1 0, 512, .inl c2)), (e3, .inl (E.2.1 0, 896, .inl c3)), (e4, .inl (E.2.1 0, 896, .inl c4))] s.heap := hP
  have hl := lv_entry ([.ref h0, .int (nI cr)]) (n := 3) (Nat.le_of_ble_eq_true rfl)
  rw [lg_entry_eq]
  generalize (lg_sl ([.ref h0, .int (nI cr)]) ++ List.replicate (3 - (lg_sl ([.ref h0, .int (nI cr)])).length) Slot.unset).toArray = ls at hl ⊢
  have hl : lv_has ls 3 [(0, .ref h0), (1, .int (nI cr))] := hl
  have fl9 := hts (.fieldLink RX3 9 "BoatsHome$Orders" "costs" "[I") (by first | exact List.mem_of_getElem? (i := 1) rfl | decide +kernel)
  have fl18 := hts (.fieldLink RX3 18 "BoatsHome$Orders" "seenDays" "[I") (by first | exact List.mem_of_getElem? (i := 2) rfl | decide +kernel)
  have fl21 := hts (.fieldLink RX3 21 "BoatsHome$Orders" "seenCosts" "[I") (by first | exact List.mem_of_getElem? (i := 4) rfl | decide +kernel)
  have fl24 := hts (.fieldLink RX3 24 "BoatsHome$Orders" "offers" "LBoatsHome$Offers;") (by first | exact List.mem_of_getElem? (i := 5) rfl | decide +kernel)
  have fl35 := hts (.fieldLink RX3 35 "BoatsHome$Offers" "crewPorts" "[I") (by first | exact List.mem_of_getElem? (i := 6) rfl | decide +kernel)
  have fl40 := hts (.fieldLink RX3 40 "BoatsHome$Offers" "crewDays" "[I") (by first | exact List.mem_of_getElem? (i := 7) rfl | decide +kernel)
  have inX2 : ∀ w ∈ u_ws RX2 TX2 9, w ∈ wsX3_search := by first | exact fun w h9 => (List.mem_cons_of_mem _ (List.mem_append_right _ h9)) | decide +kernel
  have inX3 : ∀ w ∈ u_ws RX3 TX3 5, w ∈ wsX3_search := by first | exact fun w h9 => (List.mem_cons_of_mem _ (List.mem_append_left _ (List.mem_append_right _ h9))) | decide +kernel
  refine lv_iconst (v := 0) hx hb dX3_search_0 (by decide) ?_
  refine lv_istore_n (lv' := [(2, .int 0), (0, .ref h0), (1, .int (nI cr))]) hx hb dX3_search_1 rfl hl (by decide) rfl (fun ls hl => ?_)
  have hPl := hP.sub (ws' := [(h0, .inr (3, [.ref of, .ref e1, .ref e2, .ref e3, .ref e4])), (e1, .inl (E.2.1 0, 512, .inl c1)), (of, .inr (2, [.ref g1, .ref g2, .ref g3, .ref g4, .ref g5, .int (nI on), .ref g6, .ref g7, .ref g8])), (g1, .inl (E.2.1 0, 7, .inl d1)), (g2, .inl (E.2.1 0, 7, .inl d2)), (g3, .inl (E.2.1 0, 7, .inl d3)), (g4, .inl (E.2.1 0, 7, .inl d4)), (g5, .inl (E.2.1 0, 7, .inl d5)), (g6, .inl (E.2.1 0, 4, .inl d6)), (g7, .inl (E.2.1 0, 4, .inl d7)), (g8, .inl (E.2.1 0, 100, .inl d8)), (e2, .inl (E.2.1 0, 512, .inl c2)), (e3, .inl (E.2.1 0, 896, .inl c3)), (e4, .inl (E.2.1 0, 896, .inl c4))]) [0, 10, 1, 2, 3, 4, 5, 6, 7, 8, 9, 11, 12, 13] rfl
  have hDl := hD.sub (ws' := [(h0, .inr (3, [.ref of, .ref e1, .ref e2, .ref e3, .ref e4])), (e1, .inl (E.2.1 0, 512, .inl c1)), (of, .inr (2, [.ref g1, .ref g2, .ref g3, .ref g4, .ref g5, .int (nI on), .ref g6, .ref g7, .ref g8])), (g1, .inl (E.2.1 0, 7, .inl d1)), (g2, .inl (E.2.1 0, 7, .inl d2)), (g3, .inl (E.2.1 0, 7, .inl d3)), (g4, .inl (E.2.1 0, 7, .inl d4)), (g5, .inl (E.2.1 0, 7, .inl d5)), (g6, .inl (E.2.1 0, 4, .inl d6)), (g7, .inl (E.2.1 0, 4, .inl d7)), (g8, .inl (E.2.1 0, 100, .inl d8)), (e2, .inl (E.2.1 0, 512, .inl c2)), (e3, .inl (E.2.1 0, 896, .inl c3)), (e4, .inl (E.2.1 0, 896, .inl c4))]) [0, 10, 1, 2, 3, 4, 5, 6, 7, 8, 9, 11, 12, 13] (by decide) rfl
  refine lg_search E h0 of e1 e2 e3 e4 cr ([(of, .inr (2, [.ref g1, .ref g2, .ref g3, .ref g4, .ref g5, .int (nI on), .ref g6, .ref g7, .ref g8])), (g1, .inl (E.2.1 0, 7, .inl d1)), (g2, .inl (E.2.1 0, 7, .inl d2)), (g3, .inl (E.2.1 0, 7, .inl d3)), (g4, .inl (E.2.1 0, 7, .inl d4)), (g5, .inl (E.2.1 0, 7, .inl d5)), (g6, .inl (E.2.1 0, 4, .inl d6)), (g7, .inl (E.2.1 0, 4, .inl d7)), (g8, .inl (E.2.1 0, 100, .inl d8)), (e2, .inl (E.2.1 0, 512, .inl c2)), (e3, .inl (E.2.1 0, 896, .inl c3)), (e4, .inl (E.2.1 0, 896, .inl c4))]) hx hb hml hown hts hkn hst hA hcr (fun n_1 H locs ls  hP hD hS hl => ?_) 129 0 c1 _ _ _ (by omega) (by omega) hPl hDl hS (lv_sub hl [1, 2, 0] rfl)
  have hP : va_P E.1 vwCl [(h0, .inr (3, [.ref of, .ref e1, .ref e2, .ref e3, .ref e4])), (e1, .inl (E.2.1 0, 512, .inl n_1)), (of, .inr (2, [.ref g1, .ref g2, .ref g3, .ref g4, .ref g5, .int (nI on), .ref g6, .ref g7, .ref g8])), (g1, .inl (E.2.1 0, 7, .inl d1)), (g2, .inl (E.2.1 0, 7, .inl d2)), (g3, .inl (E.2.1 0, 7, .inl d3)), (g4, .inl (E.2.1 0, 7, .inl d4)), (g5, .inl (E.2.1 0, 7, .inl d5)), (g6, .inl (E.2.1 0, 4, .inl d6)), (g7, .inl (E.2.1 0, 4, .inl d7)), (g8, .inl (E.2.1 0, 100, .inl d8)), (e2, .inl (E.2.1 0, 512, .inl c2)), (e3, .inl (E.2.1 0, 896, .inl c3)), (e4, .inl (E.2.1 0, 896, .inl c4))] H := hP
  have hD : va_D A [(h0, .inr (3, [.ref of, .ref e1, .ref e2, .ref e3, .ref e4])), (e1, .inl (E.2.1 0, 512, .inl n_1)), (of, .inr (2, [.ref g1, .ref g2, .ref g3, .ref g4, .ref g5, .int (nI on), .ref g6, .ref g7, .ref g8])), (g1, .inl (E.2.1 0, 7, .inl d1)), (g2, .inl (E.2.1 0, 7, .inl d2)), (g3, .inl (E.2.1 0, 7, .inl d3)), (g4, .inl (E.2.1 0, 7, .inl d4)), (g5, .inl (E.2.1 0, 7, .inl d5)), (g6, .inl (E.2.1 0, 4, .inl d6)), (g7, .inl (E.2.1 0, 4, .inl d7)), (g8, .inl (E.2.1 0, 100, .inl d8)), (e2, .inl (E.2.1 0, 512, .inl c2)), (e3, .inl (E.2.1 0, 896, .inl c3)), (e4, .inl (E.2.1 0, 896, .inl c4))] := hD
  refine lv_aload_n hx hb dX3_search_28 rfl (lv_at hl 0 rfl) ?_
  refine va_get (D := E.1) (ci := 3) (v := .ref e3) (C := RX3) (T := TX3) (N := 5) hx hb hts inX3 hown hK hP 0 rfl rfl 3 (by decide) fl18 (fun _ h9 => h9) rfl dX3_search_29 ?_
  refine lv_ldc (v := 1073741824) hx hb hown (hts (.constant RX3 28 1073741824) (by first | exact List.mem_of_getElem? (i := 3) rfl | decide +kernel)) dX3_search_32 ?_
  have hPc := hP.sub (ws' := [(e3, .inl (E.2.1 0, 896, .inl c3))]) [12] rfl
  have hDc := hD.sub (ws' := [(e3, .inl (E.2.1 0, 896, .inl c3))]) [12] (by decide) rfl
  have hFc := va_free (wc := [(e3, .inl (E.2.1 0, 896, .inl c3))]) hD hS hA [12] rfl
  refine va_callv (va_runS (As := [.ref e3, .int 1073741824]) (rest := []) ⟨hx, hb, hml, hown, hts⟩ (c_J7_fill_53178 l E e3 896 c3 1073741824 H.size (by decide)) (va_cwS 2 hts gX3_search_J7_fill_53178 rfl rfl rfl hdS_J7_fill_53178 ⟨Nat.le_of_ble_eq_true rfl, Nat.le_of_ble_eq_true rfl⟩) ⟨pcW_blind, (pcW_pre hPc hkn hDc hst hS hFc)⟩ rfl rfl hl.1 rfl (lv_room (Nat.le_of_ble_eq_true rfl)) dX3_search_34 ⟨Nat.le_of_ble_eq_true rfl, Nat.le_of_ble_eq_true rfl⟩) hS (fun q _ h => hFc q h) hFc (fun u t H1 locs ht hvm hw_3 hB hz1 hk1 hS => ?_)
  obtain ⟨u_4, rfl⟩ : ∃ z, z = u := ⟨_, rfl⟩
  obtain ⟨hP1, hD1⟩ := hB
  rw [ht] at hP1
  try dsimp only at hw_3
  obtain ⟨hP, hD⟩ := va_join (wr := [(h0, .inr (3, [.ref of, .ref e1, .ref e2, .ref e3, .ref e4])), (e1, .inl (E.2.1 0, 512, .inl n_1)), (of, .inr (2, [.ref g1, .ref g2, .ref g3, .ref g4, .ref g5, .int (nI on), .ref g6, .ref g7, .ref g8])), (g1, .inl (E.2.1 0, 7, .inl d1)), (g2, .inl (E.2.1 0, 7, .inl d2)), (g3, .inl (E.2.1 0, 7, .inl d3)), (g4, .inl (E.2.1 0, 7, .inl d4)), (g5, .inl (E.2.1 0, 7, .inl d5)), (g6, .inl (E.2.1 0, 4, .inl d6)), (g7, .inl (E.2.1 0, 4, .inl d7)), (g8, .inl (E.2.1 0, 100, .inl d8)), (e2, .inl (E.2.1 0, 512, .inl c2)), (e4, .inl (E.2.1 0, 896, .inl c4))]) (w1 := [(e3, .inl (E.2.1 0, 896, .inl u_4))]) hP hD [12] [0, 1, 2, 3, 4, 5, 6, 7, 8, 9, 10, 11, 13] rfl rfl (by decide) (by decide) hk1 hFc hP1 hD1
  generalize H1 = H at hP hS ⊢
  have hP : va_P E.1 vwCl [(h0, .inr (3, [.ref of, .ref e1, .ref e2, .ref e3, .ref e4])), (e1, .inl (E.2.1 0, 512, .inl n_1)), (of, .inr (2, [.ref g1, .ref g2, .ref g3, .ref g4, .ref g5, .int (nI on), .ref g6, .ref g7, .ref g8])), (g1, .inl (E.2.1 0, 7, .inl d1)), (g2, .inl (E.2.1 0, 7, .inl d2)), (g3, .inl (E.2.1 0, 7, .inl d3)), (g4, .inl (E.2.1 0, 7, .inl d4)), (g5, .inl (E.2.1 0, 7, .inl d5)), (g6, .inl (E.2.1 0, 4, .inl d6)), (g7, .inl (E.2.1 0, 4, .inl d7)), (g8, .inl (E.2.1 0, 100, .inl d8)), (e2, .inl (E.2.1 0, 512, .inl c2)), (e4, .inl (E.2.1 0, 896, .inl c4)), (e3, .inl (E.2.1 0, 896, .inl u_4))] H := hP
  have hD : va_D A [(h0, .inr (3, [.ref of, .ref e1, .ref e2, .ref e3, .ref e4])), (e1, .inl (E.2.1 0, 512, .inl n_1)), (of, .inr (2, [.ref g1, .ref g2, .ref g3, .ref g4, .ref g5, .int (nI on), .ref g6, .ref g7, .ref g8])), (g1, .inl (E.2.1 0, 7, .inl d1)), (g2, .inl (E.2.1 0, 7, .inl d2)), (g3, .inl (E.2.1 0, 7, .inl d3)), (g4, .inl (E.2.1 0, 7, .inl d4)), (g5, .inl (E.2.1 0, 7, .inl d5)), (g6, .inl (E.2.1 0, 4, .inl d6)), (g7, .inl (E.2.1 0, 4, .inl d7)), (g8, .inl (E.2.1 0, 100, .inl d8)), (e2, .inl (E.2.1 0, 512, .inl c2)), (e4, .inl (E.2.1 0, 896, .inl c4)), (e3, .inl (E.2.1 0, 896, .inl u_4))] := hD
  refine lv_aload_n hx hb dX3_search_37 rfl (lv_at hl 0 rfl) ?_
  refine va_get (D := E.1) (ci := 3) (v := .ref e4) (C := RX3) (T := TX3) (N := 5) hx hb hts inX3 hown hK hP 0 rfl rfl 4 (by decide) fl21 (fun _ h9 => h9) rfl dX3_search_38 ?_
  refine lv_ldc (v := 1073741824) hx hb hown (hts (.constant RX3 28 1073741824) (by first | exact List.mem_of_getElem? (i := 3) rfl | decide +kernel)) dX3_search_41 ?_
  have hPc := hP.sub (ws' := [(e4, .inl (E.2.1 0, 896, .inl c4))]) [12] rfl
  have hDc := hD.sub (ws' := [(e4, .inl (E.2.1 0, 896, .inl c4))]) [12] (by decide) rfl
  have hFc := va_free (wc := [(e4, .inl (E.2.1 0, 896, .inl c4))]) hD hS hA [12] rfl
  refine va_callv (va_runS (As := [.ref e4, .int 1073741824]) (rest := []) ⟨hx, hb, hml, hown, hts⟩ (c_J7_fill_53178 l E e4 896 c4 1073741824 H.size (by decide)) (va_cwS 2 hts gX3_search_J7_fill_53178 rfl rfl rfl hdS_J7_fill_53178 ⟨Nat.le_of_ble_eq_true rfl, Nat.le_of_ble_eq_true rfl⟩) ⟨pcW_blind, (pcW_pre hPc hkn hDc hst hS hFc)⟩ rfl rfl hl.1 rfl (lv_room (Nat.le_of_ble_eq_true rfl)) dX3_search_43 ⟨Nat.le_of_ble_eq_true rfl, Nat.le_of_ble_eq_true rfl⟩) hS (fun q _ h => hFc q h) hFc (fun u t H1 locs ht hvm hw_6 hB hz1 hk1 hS => ?_)
  obtain ⟨u_7, rfl⟩ : ∃ z, z = u := ⟨_, rfl⟩
  obtain ⟨hP1, hD1⟩ := hB
  rw [ht] at hP1
  try dsimp only at hw_6
  obtain ⟨hP, hD⟩ := va_join (wr := [(h0, .inr (3, [.ref of, .ref e1, .ref e2, .ref e3, .ref e4])), (e1, .inl (E.2.1 0, 512, .inl n_1)), (of, .inr (2, [.ref g1, .ref g2, .ref g3, .ref g4, .ref g5, .int (nI on), .ref g6, .ref g7, .ref g8])), (g1, .inl (E.2.1 0, 7, .inl d1)), (g2, .inl (E.2.1 0, 7, .inl d2)), (g3, .inl (E.2.1 0, 7, .inl d3)), (g4, .inl (E.2.1 0, 7, .inl d4)), (g5, .inl (E.2.1 0, 7, .inl d5)), (g6, .inl (E.2.1 0, 4, .inl d6)), (g7, .inl (E.2.1 0, 4, .inl d7)), (g8, .inl (E.2.1 0, 100, .inl d8)), (e2, .inl (E.2.1 0, 512, .inl c2)), (e3, .inl (E.2.1 0, 896, .inl u_4))]) (w1 := [(e4, .inl (E.2.1 0, 896, .inl u_7))]) hP hD [12] [0, 1, 2, 3, 4, 5, 6, 7, 8, 9, 10, 11, 13] rfl rfl (by decide) (by decide) hk1 hFc hP1 hD1
  generalize H1 = H at hP hS ⊢
  have hP : va_P E.1 vwCl [(h0, .inr (3, [.ref of, .ref e1, .ref e2, .ref e3, .ref e4])), (e1, .inl (E.2.1 0, 512, .inl n_1)), (of, .inr (2, [.ref g1, .ref g2, .ref g3, .ref g4, .ref g5, .int (nI on), .ref g6, .ref g7, .ref g8])), (g1, .inl (E.2.1 0, 7, .inl d1)), (g2, .inl (E.2.1 0, 7, .inl d2)), (g3, .inl (E.2.1 0, 7, .inl d3)), (g4, .inl (E.2.1 0, 7, .inl d4)), (g5, .inl (E.2.1 0, 7, .inl d5)), (g6, .inl (E.2.1 0, 4, .inl d6)), (g7, .inl (E.2.1 0, 4, .inl d7)), (g8, .inl (E.2.1 0, 100, .inl d8)), (e2, .inl (E.2.1 0, 512, .inl c2)), (e3, .inl (E.2.1 0, 896, .inl u_4)), (e4, .inl (E.2.1 0, 896, .inl u_7))] H := hP
  have hD : va_D A [(h0, .inr (3, [.ref of, .ref e1, .ref e2, .ref e3, .ref e4])), (e1, .inl (E.2.1 0, 512, .inl n_1)), (of, .inr (2, [.ref g1, .ref g2, .ref g3, .ref g4, .ref g5, .int (nI on), .ref g6, .ref g7, .ref g8])), (g1, .inl (E.2.1 0, 7, .inl d1)), (g2, .inl (E.2.1 0, 7, .inl d2)), (g3, .inl (E.2.1 0, 7, .inl d3)), (g4, .inl (E.2.1 0, 7, .inl d4)), (g5, .inl (E.2.1 0, 7, .inl d5)), (g6, .inl (E.2.1 0, 4, .inl d6)), (g7, .inl (E.2.1 0, 4, .inl d7)), (g8, .inl (E.2.1 0, 100, .inl d8)), (e2, .inl (E.2.1 0, 512, .inl c2)), (e3, .inl (E.2.1 0, 896, .inl u_4)), (e4, .inl (E.2.1 0, 896, .inl u_7))] := hD
  refine lv_aload_n hx hb dX3_search_46 rfl (lv_at hl 0 rfl) ?_
  refine lv_iload_n hx hb dX3_search_47 rfl (lv_at hl 1 rfl) ?_
  refine lv_iconst (v := 0) hx hb dX3_search_48 (by decide) ?_
  refine lv_iconst (v := 0) hx hb dX3_search_49 (by decide) ?_
  refine lv_aload_n hx hb dX3_search_50 rfl (lv_at hl 0 rfl) ?_
  refine va_get (D := E.1) (ci := 3) (v := .ref of) (C := RX3) (T := TX3) (N := 5) hx hb hts inX3 hown hK hP 0 rfl rfl 0 (by decide) fl24 (fun _ h9 => h9) rfl dX3_search_51 ?_
  refine va_get (D := E.1) (ci := 2) (v := .ref g6) (C := RX2) (T := TX2) (N := 9) hx hb hts inX2 hown hK hP 2 rfl rfl 6 (by decide) fl35 (fun _ h9 => h9) rfl dX3_search_54 ?_
  refine lv_iload_n hx hb dX3_search_57 rfl (lv_at hl 1 rfl) ?_
  have hi_8 : vp_in (nI cr) 4 := vp_in_nI hcr (by decide)
  refine va_iald hx hb hK hP 8 0 rfl rfl hi_8 dX3_search_58 ?_
  refine lv_topi (fun x_9 ex_9 => ?_)
  refine lv_aload_n hx hb dX3_search_59 rfl (lv_at hl 0 rfl) ?_
  refine va_get (D := E.1) (ci := 3) (v := .ref of) (C := RX3) (T := TX3) (N := 5) hx hb hts inX3 hown hK hP 0 rfl rfl 0 (by decide) fl24 (fun _ h9 => h9) rfl dX3_search_60 ?_
  refine va_get (D := E.1) (ci := 2) (v := .ref g7) (C := RX2) (T := TX2) (N := 9) hx hb hts inX2 hown hK hP 2 rfl rfl 7 (by decide) fl40 (fun _ h9 => h9) rfl dX3_search_63 ?_
  refine lv_iload_n hx hb dX3_search_66 rfl (lv_at hl 1 rfl) ?_
  refine va_iald hx hb hK hP 9 0 rfl rfl hi_8 dX3_search_67 ?_
  refine lv_topi (fun x_10 ex_10 => ?_)
  refine lv_iconst (v := 0) hx hb dX3_search_68 (by decide) ?_
  refine lv_iconst (v := 0) hx hb dX3_search_69 (by decide) ?_
  have hPc := hP.sub (ws' := [(h0, .inr (3, [.ref of, .ref e1, .ref e2, .ref e3, .ref e4])), (of, .inr (2, [.ref g1, .ref g2, .ref g3, .ref g4, .ref g5, .int (nI on), .ref g6, .ref g7, .ref g8])), (g1, .inl (E.2.1 0, 7, .inl d1)), (g2, .inl (E.2.1 0, 7, .inl d2)), (g3, .inl (E.2.1 0, 7, .inl d3)), (g4, .inl (E.2.1 0, 7, .inl d4)), (g5, .inl (E.2.1 0, 7, .inl d5)), (g8, .inl (E.2.1 0, 100, .inl d8)), (e1, .inl (E.2.1 0, 512, .inl n_1)), (e2, .inl (E.2.1 0, 512, .inl c2)), (e3, .inl (E.2.1 0, 896, .inl u_4)), (e4, .inl (E.2.1 0, 896, .inl u_7))]) [0, 2, 3, 4, 5, 6, 7, 10, 1, 11, 12, 13] rfl
  have hDc := hD.sub (ws' := [(h0, .inr (3, [.ref of, .ref e1, .ref e2, .ref e3, .ref e4])), (of, .inr (2, [.ref g1, .ref g2, .ref g3, .ref g4, .ref g5, .int (nI on), .ref g6, .ref g7, .ref g8])), (g1, .inl (E.2.1 0, 7, .inl d1)), (g2, .inl (E.2.1 0, 7, .inl d2)), (g3, .inl (E.2.1 0, 7, .inl d3)), (g4, .inl (E.2.1 0, 7, .inl d4)), (g5, .inl (E.2.1 0, 7, .inl d5)), (g8, .inl (E.2.1 0, 100, .inl d8)), (e1, .inl (E.2.1 0, 512, .inl n_1)), (e2, .inl (E.2.1 0, 512, .inl c2)), (e3, .inl (E.2.1 0, 896, .inl u_4)), (e4, .inl (E.2.1 0, 896, .inl u_7))]) [0, 2, 3, 4, 5, 6, 7, 10, 1, 11, 12, 13] (by decide) rfl
  have hFc := va_free (wc := [(h0, .inr (3, [.ref of, .ref e1, .ref e2, .ref e3, .ref e4])), (of, .inr (2, [.ref g1, .ref g2, .ref g3, .ref g4, .ref g5, .int (nI on), .ref g6, .ref g7, .ref g8])), (g1, .inl (E.2.1 0, 7, .inl d1)), (g2, .inl (E.2.1 0, 7, .inl d2)), (g3, .inl (E.2.1 0, 7, .inl d3)), (g4, .inl (E.2.1 0, 7, .inl d4)), (g5, .inl (E.2.1 0, 7, .inl d5)), (g8, .inl (E.2.1 0, 100, .inl d8)), (e1, .inl (E.2.1 0, 512, .inl n_1)), (e2, .inl (E.2.1 0, 512, .inl c2)), (e3, .inl (E.2.1 0, 896, .inl u_4)), (e4, .inl (E.2.1 0, 896, .inl u_7))]) hD hS hA [0, 2, 3, 4, 5, 6, 7, 10, 1, 11, 12, 13] rfl
  refine va_callv (va_runV (As := [.int (nI cr), .int 0, .int 0, .int x_9, .int x_10, .int 0, .int 0]) (rest := []) ⟨hx, hb, hml, hown, hts⟩ (c_X3_extend0 l E h0 of e1 e2 e3 e4 g1 g2 g3 g4 g5 g6 g7 g8 on d1 d2 d3 d4 d5 d8 cr 0 x_9 x_10 0 0 n_1 c2 u_4 u_7 H.size hcr (by decide) hd1) (cwV 7 hts gX3_search_X3_extend rfl rfl rfl hdV_X3_extend ⟨Nat.le_of_ble_eq_true rfl, Nat.le_of_ble_eq_true rfl⟩) ⟨pcW_blind, va_recv hK hPc (ci := 3) (q0 := 0) rfl rfl, (pcW_pre hPc hkn hDc hst hS hFc)⟩ rfl rfl hl.1 rfl (lv_room (Nat.le_of_ble_eq_true rfl)) dX3_search_70 ⟨Nat.le_of_ble_eq_true rfl, Nat.le_of_ble_eq_true rfl⟩) hS (fun q _ h => hFc q h) hFc (fun u t H1 locs ht hvm hw_12 hB hz1 hk1 hS => ?_)
  obtain ⟨u_13, u_14, u_15, u_16⟩ := u
  obtain ⟨hP1, hD1⟩ := hB
  rw [ht] at hP1
  try dsimp only at hw_12
  obtain ⟨hP, hD⟩ := va_join (wr := [(g6, .inl (E.2.1 0, 4, .inl d6)), (g7, .inl (E.2.1 0, 4, .inl d7))]) (w1 := [(h0, .inr (3, [.ref of, .ref e1, .ref e2, .ref e3, .ref e4])), (of, .inr (2, [.ref g1, .ref g2, .ref g3, .ref g4, .ref g5, .int (nI on), .ref g6, .ref g7, .ref g8])), (g1, .inl (E.2.1 0, 7, .inl d1)), (g2, .inl (E.2.1 0, 7, .inl d2)), (g3, .inl (E.2.1 0, 7, .inl d3)), (g4, .inl (E.2.1 0, 7, .inl d4)), (g5, .inl (E.2.1 0, 7, .inl d5)), (g8, .inl (E.2.1 0, 100, .inl d8)), (e1, .inl (E.2.1 0, 512, .inl u_13)), (e2, .inl (E.2.1 0, 512, .inl u_14)), (e3, .inl (E.2.1 0, 896, .inl u_15)), (e4, .inl (E.2.1 0, 896, .inl u_16))]) hP hD [0, 2, 3, 4, 5, 6, 7, 10, 1, 11, 12, 13] [8, 9] rfl rfl (by decide) (by decide) hk1 hFc hP1 hD1
  generalize H1 = H at hP hS ⊢
  have hP : va_P E.1 vwCl [(g6, .inl (E.2.1 0, 4, .inl d6)), (g7, .inl (E.2.1 0, 4, .inl d7)), (h0, .inr (3, [.ref of, .ref e1, .ref e2, .ref e3, .ref e4])), (of, .inr (2, [.ref g1, .ref g2, .ref g3, .ref g4, .ref g5, .int (nI on), .ref g6, .ref g7, .ref g8])), (g1, .inl (E.2.1 0, 7, .inl d1)), (g2, .inl (E.2.1 0, 7, .inl d2)), (g3, .inl (E.2.1 0, 7, .inl d3)), (g4, .inl (E.2.1 0, 7, .inl d4)), (g5, .inl (E.2.1 0, 7, .inl d5)), (g8, .inl (E.2.1 0, 100, .inl d8)), (e1, .inl (E.2.1 0, 512, .inl u_13)), (e2, .inl (E.2.1 0, 512, .inl u_14)), (e3, .inl (E.2.1 0, 896, .inl u_15)), (e4, .inl (E.2.1 0, 896, .inl u_16))] H := hP
  have hD : va_D A [(g6, .inl (E.2.1 0, 4, .inl d6)), (g7, .inl (E.2.1 0, 4, .inl d7)), (h0, .inr (3, [.ref of, .ref e1, .ref e2, .ref e3, .ref e4])), (of, .inr (2, [.ref g1, .ref g2, .ref g3, .ref g4, .ref g5, .int (nI on), .ref g6, .ref g7, .ref g8])), (g1, .inl (E.2.1 0, 7, .inl d1)), (g2, .inl (E.2.1 0, 7, .inl d2)), (g3, .inl (E.2.1 0, 7, .inl d3)), (g4, .inl (E.2.1 0, 7, .inl d4)), (g5, .inl (E.2.1 0, 7, .inl d5)), (g8, .inl (E.2.1 0, 100, .inl d8)), (e1, .inl (E.2.1 0, 512, .inl u_13)), (e2, .inl (E.2.1 0, 512, .inl u_14)), (e3, .inl (E.2.1 0, 896, .inl u_15)), (e4, .inl (E.2.1 0, 896, .inl u_16))] := hD
  have hP9 := hP.sub (ws' := [(h0, .inr (3, [.ref of, .ref e1, .ref e2, .ref e3, .ref e4])), (of, .inr (2, [.ref g1, .ref g2, .ref g3, .ref g4, .ref g5, .int (nI on), .ref g6, .ref g7, .ref g8])), (g1, .inl (E.2.1 0, 7, .inl d1)), (g2, .inl (E.2.1 0, 7, .inl d2)), (g3, .inl (E.2.1 0, 7, .inl d3)), (g4, .inl (E.2.1 0, 7, .inl d4)), (g5, .inl (E.2.1 0, 7, .inl d5)), (g6, .inl (E.2.1 0, 4, .inl d6)), (g7, .inl (E.2.1 0, 4, .inl d7)), (g8, .inl (E.2.1 0, 100, .inl d8)), (e1, .inl (E.2.1 0, 512, .inl u_13)), (e2, .inl (E.2.1 0, 512, .inl u_14)), (e3, .inl (E.2.1 0, 896, .inl u_15)), (e4, .inl (E.2.1 0, 896, .inl u_16))]) [2, 3, 4, 5, 6, 7, 8, 0, 1, 9, 10, 11, 12, 13] rfl
  have hD9 := hD.sub (ws' := [(h0, .inr (3, [.ref of, .ref e1, .ref e2, .ref e3, .ref e4])), (of, .inr (2, [.ref g1, .ref g2, .ref g3, .ref g4, .ref g5, .int (nI on), .ref g6, .ref g7, .ref g8])), (g1, .inl (E.2.1 0, 7, .inl d1)), (g2, .inl (E.2.1 0, 7, .inl d2)), (g3, .inl (E.2.1 0, 7, .inl d3)), (g4, .inl (E.2.1 0, 7, .inl d4)), (g5, .inl (E.2.1 0, 7, .inl d5)), (g6, .inl (E.2.1 0, 4, .inl d6)), (g7, .inl (E.2.1 0, 4, .inl d7)), (g8, .inl (E.2.1 0, 100, .inl d8)), (e1, .inl (E.2.1 0, 512, .inl u_13)), (e2, .inl (E.2.1 0, 512, .inl u_14)), (e3, .inl (E.2.1 0, 896, .inl u_15)), (e4, .inl (E.2.1 0, 896, .inl u_16))]) [2, 3, 4, 5, 6, 7, 8, 0, 1, 9, 10, 11, 12, 13] (by decide) rfl
  exact W.vret hx hb hr (fun t ht hW => ⟨⟨(u_13, u_14, u_15, u_16), rfl, trivial, by rw [ht]; exact hP9, hD9⟩, hS.F ht⟩) hS.2.2 dX3_search_73
set_option maxHeartbeats 4000000 in
set_option maxRecDepth 100000 in
theorem c_X5_weightOf (l : Launch) (E : vE) (x : Int32) (sz : Nat) : Met l yX5_weightOf wsX5_weightOf ({ frames := 0, cells := 0, slots := 0, locals := 0 }) (pcW E [.int x] sz []) (va_Ql (fun (r : Int64) (_ : Unit) => True) (fun (_ : Unit) (t : State) => wB E (va_A [] sz) [] t) (va_A [] sz)) 0 0 (va_A [] sz) := by
  refine Met.ofW (cc := cX5_weightOf) (maxL := 4) (ret := (some .long)) (by decide) rfl ?_
  intro p e s m args below meth c s₁ B hml hv
  obtain ⟨rfl, hsz, hP, hkn, hD0, hst⟩ := hv
  have hx := B.exec
  have hb := B.bytes
  have hr := B.returns
  have hts := atoms_spec (ws := wsX5_weightOf) B.pre
  have hown : s.vm.findClass RX5 = some m.cls := findClass_of_methodNamed B.named
  have hlocks := B.notSynchronized
  subst hsz
  have hD := hD0.self (sz := s.heap.size)
  have hK := hkn.1
  have hAO := hkn.2.2.1
  generalize hAe : va_A [] s.heap.size = A at hD hst ⊢
  have hA : ∀ q : Nat, s.heap.size ≤ q → A q := fun q h => by rw [← hAe]; exact Or.inr h
  have hS : va_S A s.heap s.heap [] := va_S.rf
  have hP : va_P E.1 vwCl [] s.heap := hP
  have hl := lv_entry ([.int x]) (n := 4) (Nat.le_of_ble_eq_true rfl)
  rw [lg_entry_eq]
  generalize (lg_sl ([.int x]) ++ List.replicate (4 - (lg_sl ([.int x])).length) Slot.unset).toArray = ls at hl ⊢
  have hl : lv_has ls 4 [(0, .int x)] := hl
  refine lv_lconst (v := 0) hx hb dX5_weightOf_0 (by decide) ?_
  refine lv_lstore_n (lv' := [(1, .long 0), (0, .int x)]) hx hb dX5_weightOf_1 rfl hl (by decide) rfl (fun ls hl => ?_)
  refine lv_iconst (v := 0) hx hb dX5_weightOf_2 (by decide) ?_
  refine lv_istore_n (lv' := [(3, .int 0), (1, .long 0), (0, .int x)]) hx hb dX5_weightOf_3 rfl hl (by decide) rfl (fun ls hl => ?_)
  refine lv_iload_n hx hb dX5_weightOf_4 rfl (lv_at hl 0 rfl) ?_
  refine lv_bipush (v := 7) hx hb dX5_weightOf_5 (by decide) ?_
  refine lv_icmp_ge (tgt := 31) hx hb dX5_weightOf_7 (by decide) (fun c9 => absurd c9 (by decide)) (fun _ => ?_)
  refine lv_lload_n hx hb dX5_weightOf_10 rfl (lv_at hl 1 rfl) ?_
  refine lv_iload_n hx hb dX5_weightOf_11 rfl (lv_at hl 2 rfl) ?_
  refine lv_iload_n hx hb dX5_weightOf_12 rfl (lv_at hl 0 rfl) ?_
  refine lv_ishr hx hb dX5_weightOf_13 ?_
  refine lv_topi (fun x_1 ex_1 => ?_)
  refine lv_iconst (v := 1) hx hb dX5_weightOf_14 (by decide) ?_
  refine lv_iand hx hb dX5_weightOf_15 ?_
  refine lv_topi (fun x_2 ex_2 => ?_)
  obtain ⟨tz_3, hZtz_3, hTtz_3⟩ := hst.1
  refine va_getsN hx hb hZtz_3 hS hown (va_Nw.use rfl (hkn.2.1 (.fieldLinkNest RX5 101 "BoatsHome" "ROW_WEIGHTS" "[I" "BoatsHome") (by decide +kernel))) (fun _ h9 => h9) dX5_weightOf_16 ?_
  refine lv_iload_n hx hb dX5_weightOf_19 rfl (lv_at hl 0 rfl) ?_
  refine va_ti (v := .int 15625) hx hb hTtz_3 hS (show vp_in 0 7 from by unfold vp_in; decide) rfl dX5_weightOf_20 ?_
  refine lv_imul hx hb dX5_weightOf_21 ?_
  refine lv_topi (fun x_4 ex_4 => ?_)
  refine lv_i2l hx hb dX5_weightOf_22 rfl ?_
  refine lv_topl (fun x_5 ex_5 => ?_)
  refine lv_ladd hx hb dX5_weightOf_23 ?_
  refine lv_topl (fun x_6 ex_6 => ?_)
  refine lv_lstore_n (lv' := [(1, .long x_6), (3, .int 0), (0, .int x)]) hx hb dX5_weightOf_24 rfl hl (by decide) rfl (fun ls hl => ?_)
  refine lv_iinc (v := 1) (lv' := [(3, .int 1), (1, .long x_6), (0, .int x)]) hx hb dX5_weightOf_25 hl (k := 1) rfl (by decide) (by decide) rfl (fun ls hl => ?_)
  refine lv_goto (tgt := 4) hx hb dX5_weightOf_28 (by decide) ?_
  refine lv_iload_n hx hb dX5_weightOf_4 rfl (lv_at hl 0 rfl) ?_
  refine lv_bipush (v := 7) hx hb dX5_weightOf_5 (by decide) ?_
  refine lv_icmp_ge (tgt := 31) hx hb dX5_weightOf_7 (by decide) (fun c9 => absurd c9 (by decide)) (fun _ => ?_)
  refine lv_lload_n hx hb dX5_weightOf_10 rfl (lv_at hl 1 rfl) ?_
  refine lv_iload_n hx hb dX5_weightOf_11 rfl (lv_at hl 2 rfl) ?_
  refine lv_iload_n hx hb dX5_weightOf_12 rfl (lv_at hl 0 rfl) ?_
  refine lv_ishr hx hb dX5_weightOf_13 ?_
  refine lv_topi (fun x_7 ex_7 => ?_)
  refine lv_iconst (v := 1) hx hb dX5_weightOf_14 (by decide) ?_
  refine lv_iand hx hb dX5_weightOf_15 ?_
  refine lv_topi (fun x_8 ex_8 => ?_)
  obtain ⟨tz_9, hZtz_9, hTtz_9⟩ := hst.1
  refine va_getsN hx hb hZtz_9 hS hown (va_Nw.use rfl (hkn.2.1 (.fieldLinkNest RX5 101 "BoatsHome" "ROW_WEIGHTS" "[I" "BoatsHome") (by decide +kernel))) (fun _ h9 => h9) dX5_weightOf_16 ?_
  refine lv_iload_n hx hb dX5_weightOf_19 rfl (lv_at hl 0 rfl) ?_
  refine va_ti (v := .int 3125) hx hb hTtz_9 hS (show vp_in 1 7 from by unfold vp_in; decide) rfl dX5_weightOf_20 ?_
  refine lv_imul hx hb dX5_weightOf_21 ?_
  refine lv_topi (fun x_10 ex_10 => ?_)
  refine lv_i2l hx hb dX5_weightOf_22 rfl ?_
  refine lv_topl (fun x_11 ex_11 => ?_)
  refine lv_ladd hx hb dX5_weightOf_23 ?_
  refine lv_topl (fun x_12 ex_12 => ?_)
  refine lv_lstore_n (lv' := [(1, .long x_12), (3, .int 1), (0, .int x)]) hx hb dX5_weightOf_24 rfl hl (by decide) rfl (fun ls hl => ?_)
  refine lv_iinc (v := 2) (lv' := [(3, .int 2), (1, .long x_12), (0, .int x)]) hx hb dX5_weightOf_25 hl (k := 1) rfl (by decide) (by decide) rfl (fun ls hl => ?_)
  refine lv_goto (tgt := 4) hx hb dX5_weightOf_28 (by decide) ?_
  refine lv_iload_n hx hb dX5_weightOf_4 rfl (lv_at hl 0 rfl) ?_
  refine lv_bipush (v := 7) hx hb dX5_weightOf_5 (by decide) ?_
  refine lv_icmp_ge (tgt := 31) hx hb dX5_weightOf_7 (by decide) (fun c9 => absurd c9 (by decide)) (fun _ => ?_)
  refine lv_lload_n hx hb dX5_weightOf_10 rfl (lv_at hl 1 rfl) ?_
  refine lv_iload_n hx hb dX5_weightOf_11 rfl (lv_at hl 2 rfl) ?_
  refine lv_iload_n hx hb dX5_weightOf_12 rfl (lv_at hl 0 rfl) ?_
  refine lv_ishr hx hb dX5_weightOf_13 ?_
  refine lv_topi (fun x_13 ex_13 => ?_)
  refine lv_iconst (v := 1) hx hb dX5_weightOf_14 (by decide) ?_
  refine lv_iand hx hb dX5_weightOf_15 ?_
  refine lv_topi (fun x_14 ex_14 => ?_)
  obtain ⟨tz_15, hZtz_15, hTtz_15⟩ := hst.1
  refine va_getsN hx hb hZtz_15 hS hown (va_Nw.use rfl (hkn.2.1 (.fieldLinkNest RX5 101 "BoatsHome" "ROW_WEIGHTS" "[I" "BoatsHome") (by decide +kernel))) (fun _ h9 => h9) dX5_weightOf_16 ?_
  refine lv_iload_n hx hb dX5_weightOf_19 rfl (lv_at hl 0 rfl) ?_
  refine va_ti (v := .int 625) hx hb hTtz_15 hS (show vp_in 2 7 from by unfold vp_in; decide) rfl dX5_weightOf_20 ?_
  refine lv_imul hx hb dX5_weightOf_21 ?_
  refine lv_topi (fun x_16 ex_16 => ?_)
  refine lv_i2l hx hb dX5_weightOf_22 rfl ?_
  refine lv_topl (fun x_17 ex_17 => ?_)
  refine lv_ladd hx hb dX5_weightOf_23 ?_
  refine lv_topl (fun x_18 ex_18 => ?_)
  refine lv_lstore_n (lv' := [(1, .long x_18), (3, .int 2), (0, .int x)]) hx hb dX5_weightOf_24 rfl hl (by decide) rfl (fun ls hl => ?_)
  refine lv_iinc (v := 3) (lv' := [(3, .int 3), (1, .long x_18), (0, .int x)]) hx hb dX5_weightOf_25 hl (k := 1) rfl (by decide) (by decide) rfl (fun ls hl => ?_)
  refine lv_goto (tgt := 4) hx hb dX5_weightOf_28 (by decide) ?_
  refine lv_iload_n hx hb dX5_weightOf_4 rfl (lv_at hl 0 rfl) ?_
  refine lv_bipush (v := 7) hx hb dX5_weightOf_5 (by decide) ?_
  refine lv_icmp_ge (tgt := 31) hx hb dX5_weightOf_7 (by decide) (fun c9 => absurd c9 (by decide)) (fun _ => ?_)
  refine lv_lload_n hx hb dX5_weightOf_10 rfl (lv_at hl 1 rfl) ?_
  refine lv_iload_n hx hb dX5_weightOf_11 rfl (lv_at hl 2 rfl) ?_
  refine lv_iload_n hx hb dX5_weightOf_12 rfl (lv_at hl 0 rfl) ?_
  refine lv_ishr hx hb dX5_weightOf_13 ?_
  refine lv_topi (fun x_19 ex_19 => ?_)
  refine lv_iconst (v := 1) hx hb dX5_weightOf_14 (by decide) ?_
  refine lv_iand hx hb dX5_weightOf_15 ?_
  refine lv_topi (fun x_20 ex_20 => ?_)
  obtain ⟨tz_21, hZtz_21, hTtz_21⟩ := hst.1
  refine va_getsN hx hb hZtz_21 hS hown (va_Nw.use rfl (hkn.2.1 (.fieldLinkNest RX5 101 "BoatsHome" "ROW_WEIGHTS" "[I" "BoatsHome") (by decide +kernel))) (fun _ h9 => h9) dX5_weightOf_16 ?_
  refine lv_iload_n hx hb dX5_weightOf_19 rfl (lv_at hl 0 rfl) ?_
  refine va_ti (v := .int 125) hx hb hTtz_21 hS (show vp_in 3 7 from by unfold vp_in; decide) rfl dX5_weightOf_20 ?_
  refine lv_imul hx hb dX5_weightOf_21 ?_
  refine lv_topi (fun x_22 ex_22 => ?_)
  refine lv_i2l hx hb dX5_weightOf_22 rfl ?_
  refine lv_topl (fun x_23 ex_23 => ?_)
  refine lv_ladd hx hb dX5_weightOf_23 ?_
  refine lv_topl (fun x_24 ex_24 => ?_)
  refine lv_lstore_n (lv' := [(1, .long x_24), (3, .int 3), (0, .int x)]) hx hb dX5_weightOf_24 rfl hl (by decide) rfl (fun ls hl => ?_)
  refine lv_iinc (v := 4) (lv' := [(3, .int 4), (1, .long x_24), (0, .int x)]) hx hb dX5_weightOf_25 hl (k := 1) rfl (by decide) (by decide) rfl (fun ls hl => ?_)
  refine lv_goto (tgt := 4) hx hb dX5_weightOf_28 (by decide) ?_
  refine lv_iload_n hx hb dX5_weightOf_4 rfl (lv_at hl 0 rfl) ?_
  refine lv_bipush (v := 7) hx hb dX5_weightOf_5 (by decide) ?_
  refine lv_icmp_ge (tgt := 31) hx hb dX5_weightOf_7 (by decide) (fun c9 => absurd c9 (by decide)) (fun _ => ?_)
  refine lv_lload_n hx hb dX5_weightOf_10 rfl (lv_at hl 1 rfl) ?_
  refine lv_iload_n hx hb dX5_weightOf_11 rfl (lv_at hl 2 rfl) ?_
  refine lv_iload_n hx hb dX5_weightOf_12 rfl (lv_at hl 0 rfl) ?_
  refine lv_ishr hx hb dX5_weightOf_13 ?_
  refine lv_topi (fun x_25 ex_25 => ?_)
  refine lv_iconst (v := 1) hx hb dX5_weightOf_14 (by decide) ?_
  refine lv_iand hx hb dX5_weightOf_15 ?_
  refine lv_topi (fun x_26 ex_26 => ?_)
  obtain ⟨tz_27, hZtz_27, hTtz_27⟩ := hst.1
  refine va_getsN hx hb hZtz_27 hS hown (va_Nw.use rfl (hkn.2.1 (.fieldLinkNest RX5 101 "BoatsHome" "ROW_WEIGHTS" "[I" "BoatsHome") (by decide +kernel))) (fun _ h9 => h9) dX5_weightOf_16 ?_
  refine lv_iload_n hx hb dX5_weightOf_19 rfl (lv_at hl 0 rfl) ?_
  refine va_ti (v := .int 25) hx hb hTtz_27 hS (show vp_in 4 7 from by unfold vp_in; decide) rfl dX5_weightOf_20 ?_
  refine lv_imul hx hb dX5_weightOf_21 ?_
  refine lv_topi (fun x_28 ex_28 => ?_)
  refine lv_i2l hx hb dX5_weightOf_22 rfl ?_
  refine lv_topl (fun x_29 ex_29 => ?_)
  refine lv_ladd hx hb dX5_weightOf_23 ?_
  refine lv_topl (fun x_30 ex_30 => ?_)
  refine lv_lstore_n (lv' := [(1, .long x_30), (3, .int 4), (0, .int x)]) hx hb dX5_weightOf_24 rfl hl (by decide) rfl (fun ls hl => ?_)
  refine lv_iinc (v := 5) (lv' := [(3, .int 5), (1, .long x_30), (0, .int x)]) hx hb dX5_weightOf_25 hl (k := 1) rfl (by decide) (by decide) rfl (fun ls hl => ?_)
  refine lv_goto (tgt := 4) hx hb dX5_weightOf_28 (by decide) ?_
  refine lv_iload_n hx hb dX5_weightOf_4 rfl (lv_at hl 0 rfl) ?_
  refine lv_bipush (v := 7) hx hb dX5_weightOf_5 (by decide) ?_
  refine lv_icmp_ge (tgt := 31) hx hb dX5_weightOf_7 (by decide) (fun c9 => absurd c9 (by decide)) (fun _ => ?_)
  refine lv_lload_n hx hb dX5_weightOf_10 rfl (lv_at hl 1 rfl) ?_
  refine lv_iload_n hx hb dX5_weightOf_11 rfl (lv_at hl 2 rfl) ?_
  refine lv_iload_n hx hb dX5_weightOf_12 rfl (lv_at hl 0 rfl) ?_
  refine lv_ishr hx hb dX5_weightOf_13 ?_
  refine lv_topi (fun x_31 ex_31 => ?_)
  refine lv_iconst (v := 1) hx hb dX5_weightOf_14 (by decide) ?_
  refine lv_iand hx hb dX5_weightOf_15 ?_
  refine lv_topi (fun x_32 ex_32 => ?_)
  obtain ⟨tz_33, hZtz_33, hTtz_33⟩ := hst.1
  refine va_getsN hx hb hZtz_33 hS hown (va_Nw.use rfl (hkn.2.1 (.fieldLinkNest RX5 101 "BoatsHome" "ROW_WEIGHTS" "[I" "BoatsHome") (by decide +kernel))) (fun _ h9 => h9) dX5_weightOf_16 ?_
  refine lv_iload_n hx hb dX5_weightOf_19 rfl (lv_at hl 0 rfl) ?_
  refine va_ti (v := .int 5) hx hb hTtz_33 hS (show vp_in 5 7 from by unfold vp_in; decide) rfl dX5_weightOf_20 ?_
  refine lv_imul hx hb dX5_weightOf_21 ?_
  refine lv_topi (fun x_34 ex_34 => ?_)
  refine lv_i2l hx hb dX5_weightOf_22 rfl ?_
  refine lv_topl (fun x_35 ex_35 => ?_)
  refine lv_ladd hx hb dX5_weightOf_23 ?_
  refine lv_topl (fun x_36 ex_36 => ?_)
  refine lv_lstore_n (lv' := [(1, .long x_36), (3, .int 5), (0, .int x)]) hx hb dX5_weightOf_24 rfl hl (by decide) rfl (fun ls hl => ?_)
  refine lv_iinc (v := 6) (lv' := [(3, .int 6), (1, .long x_36), (0, .int x)]) hx hb dX5_weightOf_25 hl (k := 1) rfl (by decide) (by decide) rfl (fun ls hl => ?_)
  refine lv_goto (tgt := 4) hx hb dX5_weightOf_28 (by decide) ?_
  refine lv_iload_n hx hb dX5_weightOf_4 rfl (lv_at hl 0 rfl) ?_
  refine lv_bipush (v := 7) hx hb dX5_weightOf_5 (by decide) ?_
  refine lv_icmp_ge (tgt := 31) hx hb dX5_weightOf_7 (by decide) (fun c9 => absurd c9 (by decide)) (fun _ => ?_)
  refine lv_lload_n hx hb dX5_weightOf_10 rfl (lv_at hl 1 rfl) ?_
  refine lv_iload_n hx hb dX5_weightOf_11 rfl (lv_at hl 2 rfl) ?_
  refine lv_iload_n hx hb dX5_weightOf_12 rfl (lv_at hl 0 rfl) ?_
  refine lv_ishr hx hb dX5_weightOf_13 ?_
  refine lv_topi (fun x_37 ex_37 => ?_)
  refine lv_iconst (v := 1) hx hb dX5_weightOf_14 (by decide) ?_
  refine lv_iand hx hb dX5_weightOf_15 ?_
  refine lv_topi (fun x_38 ex_38 => ?_)
  obtain ⟨tz_39, hZtz_39, hTtz_39⟩ := hst.1
  refine va_getsN hx hb hZtz_39 hS hown (va_Nw.use rfl (hkn.2.1 (.fieldLinkNest RX5 101 "BoatsHome" "ROW_WEIGHTS" "[I" "BoatsHome") (by decide +kernel))) (fun _ h9 => h9) dX5_weightOf_16 ?_
  refine lv_iload_n hx hb dX5_weightOf_19 rfl (lv_at hl 0 rfl) ?_
  refine va_ti (v := .int 1) hx hb hTtz_39 hS (show vp_in 6 7 from by unfold vp_in; decide) rfl dX5_weightOf_20 ?_
  refine lv_imul hx hb dX5_weightOf_21 ?_
  refine lv_topi (fun x_40 ex_40 => ?_)
  refine lv_i2l hx hb dX5_weightOf_22 rfl ?_
  refine lv_topl (fun x_41 ex_41 => ?_)
  refine lv_ladd hx hb dX5_weightOf_23 ?_
  refine lv_topl (fun x_42 ex_42 => ?_)
  refine lv_lstore_n (lv' := [(1, .long x_42), (3, .int 6), (0, .int x)]) hx hb dX5_weightOf_24 rfl hl (by decide) rfl (fun ls hl => ?_)
  refine lv_iinc (v := 7) (lv' := [(3, .int 7), (1, .long x_42), (0, .int x)]) hx hb dX5_weightOf_25 hl (k := 1) rfl (by decide) (by decide) rfl (fun ls hl => ?_)
  refine lv_goto (tgt := 4) hx hb dX5_weightOf_28 (by decide) ?_
  refine lv_iload_n hx hb dX5_weightOf_4 rfl (lv_at hl 0 rfl) ?_
  refine lv_bipush (v := 7) hx hb dX5_weightOf_5 (by decide) ?_
  refine lv_icmp_ge (tgt := 31) hx hb dX5_weightOf_7 (by decide) (fun _ => ?_) (fun c9 => absurd c9 (by decide))
  refine lv_lload_n hx hb dX5_weightOf_31 rfl (lv_at hl 1 rfl) ?_
  have hP9 := hP.sub (ws' := []) [] rfl
  have hD9 := hD.sub (ws' := []) [] (by decide) rfl
  exact W.lret (v := x_42) hx hb hr (fun t ht hW => ⟨⟨x_42, (), rfl, trivial, by rw [ht]; exact hP9, hD9⟩, hS.F ht⟩) hS.2.2 dX5_weightOf_32
set_option maxHeartbeats 4000000 in
set_option maxRecDepth 100000 in
theorem c_J6_bitCount_0f7a4 (l : Launch) (E : vE) (x : Int32) (sz : Nat) : Met l yJ6_bitCount_0f7a4 wsJ6_bitCount_0f7a4 ({ frames := 0, cells := 0, slots := 0, locals := 0 }) (pcW E [.int x] sz []) (va_Qi (fun (r : Int32) (_ : Unit) => True) (fun (_ : Unit) (t : State) => wB E (va_A [] sz) [] t) (va_A [] sz)) 0 0 (va_A [] sz) := by
  refine Met.ofW (cc := cJ6_bitCount_0f7a4) (maxL := 1) (ret := (some .int)) (by decide) rfl ?_
  intro p e s m args below meth c s₁ B hml hv
  obtain ⟨rfl, hsz, hP, hkn, hD0, hst⟩ := hv
  have hx := B.exec
  have hb := B.bytes
  have hr := B.returns
  have hts := atoms_spec (ws := wsJ6_bitCount_0f7a4) B.pre
  have hown : s.vm.findClass RJ6 = some m.cls := findClass_of_methodNamed B.named
  have hlocks := B.notSynchronized
  subst hsz
  have hD := hD0.self (sz := s.heap.size)
  have hK := hkn.1
  have hAO := hkn.2.2.1
  generalize hAe : va_A [] s.heap.size = A at hD hst ⊢
  have hA : ∀ q : Nat, s.heap.size ≤ q → A q := fun q h => by rw [← hAe]; exact Or.inr h
  have hS : va_S A s.heap s.heap [] := va_S.rf
  have hP : va_P E.1 vwCl [] s.heap := hP
  have hl := lv_entry ([.int x]) (n := 1) (Nat.le_of_ble_eq_true rfl)
  rw [lg_entry_eq]
  generalize (lg_sl ([.int x]) ++ List.replicate (1 - (lg_sl ([.int x])).length) Slot.unset).toArray = ls at hl ⊢
  have hl : lv_has ls 1 [(0, .int x)] := hl
  refine lv_iload_n hx hb dJ6_bitCount_0f7a4_0 rfl (lv_at hl 0 rfl) ?_
  refine lv_iload_n hx hb dJ6_bitCount_0f7a4_1 rfl (lv_at hl 0 rfl) ?_
  refine lv_iconst (v := 1) hx hb dJ6_bitCount_0f7a4_2 (by decide) ?_
  refine lv_iushr hx hb dJ6_bitCount_0f7a4_3 rfl ?_
  refine lv_topi (fun x_1 ex_1 => ?_)
  refine lv_ldcw (v := 1431655765) hx hb hown (hts (.constant RJ6 265 1431655765) (by first | exact List.mem_of_getElem? (i := 1) rfl | decide +kernel)) dJ6_bitCount_0f7a4_4 ?_
  refine lv_iand hx hb dJ6_bitCount_0f7a4_7 ?_
  refine lv_topi (fun x_2 ex_2 => ?_)
  refine lv_isub hx hb dJ6_bitCount_0f7a4_8 ?_
  refine lv_topi (fun x_3 ex_3 => ?_)
  refine lv_istore_n (lv' := [(0, .int x_3)]) hx hb dJ6_bitCount_0f7a4_9 rfl hl (by decide) rfl (fun ls hl => ?_)
  refine lv_iload_n hx hb dJ6_bitCount_0f7a4_10 rfl (lv_at hl 0 rfl) ?_
  refine lv_ldcw (v := 858993459) hx hb hown (hts (.constant RJ6 266 858993459) (by first | exact List.mem_of_getElem? (i := 2) rfl | decide +kernel)) dJ6_bitCount_0f7a4_11 ?_
  refine lv_iand hx hb dJ6_bitCount_0f7a4_14 ?_
  refine lv_topi (fun x_4 ex_4 => ?_)
  refine lv_iload_n hx hb dJ6_bitCount_0f7a4_15 rfl (lv_at hl 0 rfl) ?_
  refine lv_iconst (v := 2) hx hb dJ6_bitCount_0f7a4_16 (by decide) ?_
  refine lv_iushr hx hb dJ6_bitCount_0f7a4_17 rfl ?_
  refine lv_topi (fun x_5 ex_5 => ?_)
  refine lv_ldcw (v := 858993459) hx hb hown (hts (.constant RJ6 266 858993459) (by first | exact List.mem_of_getElem? (i := 2) rfl | decide +kernel)) dJ6_bitCount_0f7a4_18 ?_
  refine lv_iand hx hb dJ6_bitCount_0f7a4_21 ?_
  refine lv_topi (fun x_6 ex_6 => ?_)
  refine lv_iadd hx hb dJ6_bitCount_0f7a4_22 ?_
  refine lv_topi (fun x_7 ex_7 => ?_)
  refine lv_istore_n (lv' := [(0, .int x_7)]) hx hb dJ6_bitCount_0f7a4_23 rfl hl (by decide) rfl (fun ls hl => ?_)
  refine lv_iload_n hx hb dJ6_bitCount_0f7a4_24 rfl (lv_at hl 0 rfl) ?_
  refine lv_iload_n hx hb dJ6_bitCount_0f7a4_25 rfl (lv_at hl 0 rfl) ?_
  refine lv_iconst (v := 4) hx hb dJ6_bitCount_0f7a4_26 (by decide) ?_
  refine lv_iushr hx hb dJ6_bitCount_0f7a4_27 rfl ?_
  refine lv_topi (fun x_8 ex_8 => ?_)
  refine lv_iadd hx hb dJ6_bitCount_0f7a4_28 ?_
  refine lv_topi (fun x_9 ex_9 => ?_)
  refine lv_ldcw (v := 252645135) hx hb hown (hts (.constant RJ6 267 252645135) (by first | exact List.mem_of_getElem? (i := 3) rfl | decide +kernel)) dJ6_bitCount_0f7a4_29 ?_
  refine lv_iand hx hb dJ6_bitCount_0f7a4_32 ?_
  refine lv_topi (fun x_10 ex_10 => ?_)
  refine lv_istore_n (lv' := [(0, .int x_10)]) hx hb dJ6_bitCount_0f7a4_33 rfl hl (by decide) rfl (fun ls hl => ?_)
  refine lv_iload_n hx hb dJ6_bitCount_0f7a4_34 rfl (lv_at hl 0 rfl) ?_
  refine lv_iload_n hx hb dJ6_bitCount_0f7a4_35 rfl (lv_at hl 0 rfl) ?_
  refine lv_bipush (v := 8) hx hb dJ6_bitCount_0f7a4_36 (by decide) ?_
  refine lv_iushr hx hb dJ6_bitCount_0f7a4_38 rfl ?_
  refine lv_topi (fun x_11 ex_11 => ?_)
  refine lv_iadd hx hb dJ6_bitCount_0f7a4_39 ?_
  refine lv_topi (fun x_12 ex_12 => ?_)
  refine lv_istore_n (lv' := [(0, .int x_12)]) hx hb dJ6_bitCount_0f7a4_40 rfl hl (by decide) rfl (fun ls hl => ?_)
  refine lv_iload_n hx hb dJ6_bitCount_0f7a4_41 rfl (lv_at hl 0 rfl) ?_
  refine lv_iload_n hx hb dJ6_bitCount_0f7a4_42 rfl (lv_at hl 0 rfl) ?_
  refine lv_bipush (v := 16) hx hb dJ6_bitCount_0f7a4_43 (by decide) ?_
  refine lv_iushr hx hb dJ6_bitCount_0f7a4_45 rfl ?_
  refine lv_topi (fun x_13 ex_13 => ?_)
  refine lv_iadd hx hb dJ6_bitCount_0f7a4_46 ?_
  refine lv_topi (fun x_14 ex_14 => ?_)
  refine lv_istore_n (lv' := [(0, .int x_14)]) hx hb dJ6_bitCount_0f7a4_47 rfl hl (by decide) rfl (fun ls hl => ?_)
  refine lv_iload_n hx hb dJ6_bitCount_0f7a4_48 rfl (lv_at hl 0 rfl) ?_
  refine lv_bipush (v := 63) hx hb dJ6_bitCount_0f7a4_49 (by decide) ?_
  refine lv_iand hx hb dJ6_bitCount_0f7a4_51 ?_
  refine lv_topi (fun x_15 ex_15 => ?_)
  have hP9 := hP.sub (ws' := []) [] rfl
  have hD9 := hD.sub (ws' := []) [] (by decide) rfl
  exact W.iret (v := x_15) hx hb hr (fun t ht hW => ⟨⟨x_15, (), rfl, trivial, by rw [ht]; exact hP9, hD9⟩, hS.F ht⟩) hS.2.2 dJ6_bitCount_0f7a4_52
set_option maxHeartbeats 4000000 in
set_option maxRecDepth 100000 in
theorem lg_row {p : Program} {l : Launch} {e : Env} {R : Room} {s : State} {m : MethodId} {args : Array Value} {below : List Frame} {meth : Method} {c : Code} {cells slots : Nat} {Q : State → Prop} {A : Nat → Prop} (E : vE) (h0 : Nat) (of : Nat) (k1 : Nat) (k2 : Nat) (k3 : Nat) (k4 : Nat) (md : Int32) (dn : Int32) (fsu : Int32) (rw_ : Int32) (hx : p.tables.exec = Jvm.exec) (hb : c.code = cX5_readRow) (hml : c.maxLocals = 4) (hown : s.vm.findClass RX5 = some m.cls) (hts : ∀ w ∈ wsX5_readRow, w.before args s = true) (hkn : kn E s) (hst : st E A s s.heap) (hA : ∀ q : Nat, s.heap.size ≤ q → A q) (kk : ∀ (f3 : Nat → Int32) (f4 : Nat → Int32) (H : Heap) (locs : List Loc) (ls : Array Slot), va_P E.1 vwCl [(h0, .inr (5, [.ref of, .ref k1, .ref k2, .ref k3, .ref k4, .int md, .int dn, .int fsu])), (k3, .inl (E.2.1 0, 7, .inl f3)), (k4, .inl (E.2.1 0, 7, .inl f4))] H → va_D A [(h0, .inr (5, [.ref of, .ref k1, .ref k2, .ref k3, .ref k4, .int md, .int dn, .int fsu])), (k3, .inl (E.2.1 0, 7, .inl f3)), (k4, .inl (E.2.1 0, 7, .inl f4))] → va_S A s.heap H locs → lv_has ls 4 [(0, .ref h0)] → W p l e R s m args below meth c H locs cells slots Q (F0 m 47 ls [])) : ∀ (n0 : Nat) (k : Nat) (f3 : Nat → Int32) (f4 : Nat → Int32) (H : Heap) (locs : List Loc) (ls : Array Slot), 7 - k < n0 → (k ≤ 7) → va_P E.1 vwCl [(h0, .inr (5, [.ref of, .ref k1, .ref k2, .ref k3, .ref k4, .int md, .int dn, .int fsu])), (k3, .inl (E.2.1 0, 7, .inl f3)), (k4, .inl (E.2.1 0, 7, .inl f4))] H → va_D A [(h0, .inr (5, [.ref of, .ref k1, .ref k2, .ref k3, .ref k4, .int md, .int dn, .int fsu])), (k3, .inl (E.2.1 0, 7, .inl f3)), (k4, .inl (E.2.1 0, 7, .inl f4))] → va_S A s.heap H locs → lv_has ls 4 [(0, .ref h0), (1, .int rw_), (2, .int (nI k))] → W p l e R s m args below meth c H locs cells slots Q (F0 m 2 ls []) := by
  have hK := hkn.1
  have hAO := hkn.2.2.1
  have fl15 := hts (.fieldLink RX5 15 "BoatsHome$Plan" "crewOf" "[I") (by first | exact List.mem_of_getElem? (i := 1) rfl | decide +kernel)
  have fl19 := hts (.fieldLink RX5 19 "BoatsHome$Plan" "dayOf" "[I") (by first | exact List.mem_of_getElem? (i := 2) rfl | decide +kernel)
  have inX5 : ∀ w ∈ u_ws RX5 TX5 8, w ∈ wsX5_readRow := by first | exact fun w h9 => (List.mem_cons_of_mem _ (List.mem_append_right _ h9)) | decide +kernel
  intro n0
  induction n0 with
  | zero =>
    intro k f3 f4 H locs ls hn0
    exact absurd hn0 (Nat.not_lt_zero _)
  | succ n0 ih =>
    intro k f3 f4 H locs ls hn0 hk hP hD hS hl
    refine lv_iload_n hx hb dX5_readRow_2 rfl (lv_at hl 2 rfl) ?_
    refine lv_bipush (v := 7) hx hb dX5_readRow_3 (by decide) ?_
    refine lv_icmp_ge (tgt := 47) hx hb dX5_readRow_5 (by decide) (fun c_1 => ?_) (fun c_1 => ?_)
    · exact kk f3 f4 _ _ _  (hP.sub [0, 1, 2] rfl) (hD.sub [0, 1, 2] (by decide) rfl) hS (lv_sub hl [0] rfl)
    · have hlt : k < 7 := by
        rcases Nat.lt_or_ge k 7 with q | q
        · exact q
        · exact absurd (show (7 : Int32) ≤ nI k from nI_le (a := 7) q (by omega)) c_1
      refine lv_iload_n hx hb dX5_readRow_8 rfl (lv_at hl 1 rfl) ?_
      obtain ⟨tz_2, hZtz_2, hTtz_2⟩ := hst.1
      refine va_getsN hx hb hZtz_2 hS hown (va_Nw.use rfl (hkn.2.1 (.fieldLinkNest RX5 101 "BoatsHome" "ROW_WEIGHTS" "[I" "BoatsHome") (by decide +kernel))) (fun _ h9 => h9) dX5_readRow_9 ?_
      refine lv_iload_n hx hb dX5_readRow_12 rfl (lv_at hl 2 rfl) ?_
      refine va_ti (v := .int (sWn ((nI k).toNatClampNeg))) hx hb hTtz_2 hS (vp_in_nI hlt (by decide)) (sWf_eq _) dX5_readRow_13 ?_
      refine lv_topi (fun x_3 ex_3 => ?_)
      refine lv_idiv hx hb dX5_readRow_14 (by rw [ex_3]; exact sWn_ne hlt) ?_
      refine lv_topi (fun x_4 ex_4 => ?_)
      refine lv_iconst (v := 5) hx hb dX5_readRow_15 (by decide) ?_
      refine lv_irem hx hb dX5_readRow_16 (by decide) ?_
      refine lv_topi (fun x_5 ex_5 => ?_)
      refine lv_istore_n (lv' := [(3, .int x_5), (0, .ref h0), (1, .int rw_), (2, .int (nI k))]) hx hb dX5_readRow_17 rfl hl (by decide) rfl (fun ls hl => ?_)
      refine lv_aload_n hx hb dX5_readRow_18 rfl (lv_at hl 1 rfl) ?_
      refine va_get (D := E.1) (ci := 5) (v := .ref k3) (C := RX5) (T := TX5) (N := 8) hx hb hts inX5 hown hK hP 0 rfl rfl 3 (by decide) fl15 (fun _ h9 => h9) rfl dX5_readRow_19 ?_
      refine lv_iload_n hx hb dX5_readRow_22 rfl (lv_at hl 3 rfl) ?_
      refine lv_iload_n hx hb dX5_readRow_23 rfl (lv_at hl 0 rfl) ?_
      refine lv_iconst (v := 4) hx hb dX5_readRow_24 (by decide) ?_
      refine lv_icmp_ne (tgt := 32) hx hb dX5_readRow_25 (by decide) (fun c_6 => ?_) (fun c_6 => ?_)
      · refine lv_iload_n hx hb dX5_readRow_32 rfl (lv_at hl 0 rfl) ?_
        refine va_iast hx hb hK hP hD hS 1 0 rfl rfl (vp_in_nI hlt (by decide)) dX5_readRow_33 (fun H locs hP hD hS => ?_)
        have hP : va_P E.1 vwCl [(h0, .inr (5, [.ref of, .ref k1, .ref k2, .ref k3, .ref k4, .int md, .int dn, .int fsu])), (k3, .inl (E.2.1 0, 7, .inl (upd f3 (nI k).toNatClampNeg x_5))), (k4, .inl (E.2.1 0, 7, .inl f4))] H := hP
        have hD : va_D A [(h0, .inr (5, [.ref of, .ref k1, .ref k2, .ref k3, .ref k4, .int md, .int dn, .int fsu])), (k3, .inl (E.2.1 0, 7, .inl (upd f3 (nI k).toNatClampNeg x_5))), (k4, .inl (E.2.1 0, 7, .inl f4))] := hD
        obtain ⟨f_7, ef_7⟩ : ∃ g : Nat → Int32, g = upd f3 (nI k).toNatClampNeg x_5 := ⟨_, rfl⟩
        rw [← ef_7] at hP hD
        refine lv_aload_n hx hb dX5_readRow_34 rfl (lv_at hl 1 rfl) ?_
        refine va_get (D := E.1) (ci := 5) (v := .ref k4) (C := RX5) (T := TX5) (N := 8) hx hb hts inX5 hown hK hP 0 rfl rfl 4 (by decide) fl19 (fun _ h9 => h9) rfl dX5_readRow_35 ?_
        refine lv_iload_n hx hb dX5_readRow_38 rfl (lv_at hl 3 rfl) ?_
        refine lv_iconst (v := (-1)) hx hb dX5_readRow_39 (by decide) ?_
        refine va_iast hx hb hK hP hD hS 2 0 rfl rfl (vp_in_nI hlt (by decide)) dX5_readRow_40 (fun H locs hP hD hS => ?_)
        have hP : va_P E.1 vwCl [(h0, .inr (5, [.ref of, .ref k1, .ref k2, .ref k3, .ref k4, .int md, .int dn, .int fsu])), (k3, .inl (E.2.1 0, 7, .inl f_7)), (k4, .inl (E.2.1 0, 7, .inl (upd f4 (nI k).toNatClampNeg (-1))))] H := hP
        have hD : va_D A [(h0, .inr (5, [.ref of, .ref k1, .ref k2, .ref k3, .ref k4, .int md, .int dn, .int fsu])), (k3, .inl (E.2.1 0, 7, .inl f_7)), (k4, .inl (E.2.1 0, 7, .inl (upd f4 (nI k).toNatClampNeg (-1))))] := hD
        obtain ⟨f_8, ef_8⟩ : ∃ g : Nat → Int32, g = upd f4 (nI k).toNatClampNeg (-1) := ⟨_, rfl⟩
        rw [← ef_8] at hP hD
        refine lv_iinc (v := (nI (k + 1))) (lv' := [(2, .int (nI (k + 1))), (3, .int x_5), (0, .ref h0), (1, .int rw_)]) hx hb dX5_readRow_41 hl (k := 3) rfl (show nI k + 1 = nI (k + 1) from nI_1 k) (by decide) rfl (fun ls hl => ?_)
        refine lv_goto (tgt := 2) hx hb dX5_readRow_44 (by decide) ?_
        exact ih (k + 1) f_7 f_8 _ _ _ (by omega) (by omega) (hP.sub [0, 1, 2] rfl) (hD.sub [0, 1, 2] (by decide) rfl) hS (lv_sub hl [2, 3, 0] rfl)
      · refine lv_iconst (v := (-1)) hx hb dX5_readRow_28 (by decide) ?_
        refine lv_goto (tgt := 33) hx hb dX5_readRow_29 (by decide) ?_
        refine va_iast hx hb hK hP hD hS 1 0 rfl rfl (vp_in_nI hlt (by decide)) dX5_readRow_33 (fun H locs hP hD hS => ?_)
        have hP : va_P E.1 vwCl [(h0, .inr (5, [.ref of, .ref k1, .ref k2, .ref k3, .ref k4, .int md, .int dn, .int fsu])), (k3, .inl (E.2.1 0, 7, .inl (upd f3 (nI k).toNatClampNeg (-1)))), (k4, .inl (E.2.1 0, 7, .inl f4))] H := hP
        have hD : va_D A [(h0, .inr (5, [.ref of, .ref k1, .ref k2, .ref k3, .ref k4, .int md, .int dn, .int fsu])), (k3, .inl (E.2.1 0, 7, .inl (upd f3 (nI k).toNatClampNeg (-1)))), (k4, .inl (E.2.1 0, 7, .inl f4))] := hD
        obtain ⟨f_9, ef_9⟩ : ∃ g : Nat → Int32, g = upd f3 (nI k).toNatClampNeg (-1) := ⟨_, rfl⟩
        rw [← ef_9] at hP hD
        refine lv_aload_n hx hb dX5_readRow_34 rfl (lv_at hl 1 rfl) ?_
        refine va_get (D := E.1) (ci := 5) (v := .ref k4) (C := RX5) (T := TX5) (N := 8) hx hb hts inX5 hown hK hP 0 rfl rfl 4 (by decide) fl19 (fun _ h9 => h9) rfl dX5_readRow_35 ?_
        refine lv_iload_n hx hb dX5_readRow_38 rfl (lv_at hl 3 rfl) ?_
        refine lv_iconst (v := (-1)) hx hb dX5_readRow_39 (by decide) ?_
        refine va_iast hx hb hK hP hD hS 2 0 rfl rfl (vp_in_nI hlt (by decide)) dX5_readRow_40 (fun H locs hP hD hS => ?_)
        have hP : va_P E.1 vwCl [(h0, .inr (5, [.ref of, .ref k1, .ref k2, .ref k3, .ref k4, .int md, .int dn, .int fsu])), (k3, .inl (E.2.1 0, 7, .inl f_9)), (k4, .inl (E.2.1 0, 7, .inl (upd f4 (nI k).toNatClampNeg (-1))))] H := hP
        have hD : va_D A [(h0, .inr (5, [.ref of, .ref k1, .ref k2, .ref k3, .ref k4, .int md, .int dn, .int fsu])), (k3, .inl (E.2.1 0, 7, .inl f_9)), (k4, .inl (E.2.1 0, 7, .inl (upd f4 (nI k).toNatClampNeg (-1))))] := hD
        obtain ⟨f_10, ef_10⟩ : ∃ g : Nat → Int32, g = upd f4 (nI k).toNatClampNeg (-1) := ⟨_, rfl⟩
        rw [← ef_10] at hP hD
        refine lv_iinc (v := (nI (k + 1))) (lv' := [(2, .int (nI (k + 1))), (3, .int x_5), (0, .ref h0), (1, .int rw_)]) hx hb dX5_readRow_41 hl (k := 3) rfl (show nI k + 1 = nI (k + 1) from nI_1 k) (by decide) rfl (fun ls hl => ?_)
        refine lv_goto (tgt := 2) hx hb dX5_readRow_44 (by decide) ?_
        exact ih (k + 1) f_9 f_10 _ _ _ (by omega) (by omega) (hP.sub [0, 1, 2] rfl) (hD.sub [0, 1, 2] (by decide) rfl) hS (lv_sub hl [2, 3, 0] rfl)
set_option maxHeartbeats 4000000 in
set_option maxRecDepth 100000 in
theorem c_X5_readRow (l : Launch) (E : vE) (h0 : Nat) (of : Nat) (k1 : Nat) (k2 : Nat) (k3 : Nat) (k4 : Nat) (md : Int32) (dn : Int32) (fsu : Int32) (f3 : Nat → Int32) (f4 : Nat → Int32) (rw_ : Int32) (sz : Nat) : Met l yX5_readRow wsX5_readRow ({ frames := 0, cells := 0, slots := 0, locals := 0 }) (pcW E [.ref h0, .int rw_] sz [(h0, .inr (5, [.ref of, .ref k1, .ref k2, .ref k3, .ref k4, .int md, .int dn, .int fsu])), (k3, .inl (E.2.1 0, 7, .inl f3)), (k4, .inl (E.2.1 0, 7, .inl f4))]) (va_Qv (fun (u : (Nat → Int32) × (Nat → Int32)) => match u with | (f32, f42) => True) (fun (u : (Nat → Int32) × (Nat → Int32)) (t : State) => match u with | (f32, f42) => wB E (va_A [(h0, .inr (5, [.ref of, .ref k1, .ref k2, .ref k3, .ref k4, .int md, .int dn, .int fsu])), (k3, .inl (E.2.1 0, 7, .inl f3)), (k4, .inl (E.2.1 0, 7, .inl f4))] sz) [(h0, .inr (5, [.ref of, .ref k1, .ref k2, .ref k3, .ref k4, .int md, .int dn, .int fsu])), (k3, .inl (E.2.1 0, 7, .inl f32)), (k4, .inl (E.2.1 0, 7, .inl f42))] t) (va_A [(h0, .inr (5, [.ref of, .ref k1, .ref k2, .ref k3, .ref k4, .int md, .int dn, .int fsu])), (k3, .inl (E.2.1 0, 7, .inl f3)), (k4, .inl (E.2.1 0, 7, .inl f4))] sz)) 0 0 (va_A [(h0, .inr (5, [.ref of, .ref k1, .ref k2, .ref k3, .ref k4, .int md, .int dn, .int fsu])), (k3, .inl (E.2.1 0, 7, .inl f3)), (k4, .inl (E.2.1 0, 7, .inl f4))] sz) := by
  refine Met.ofW (cc := cX5_readRow) (maxL := 4) (ret := none) (by decide) rfl ?_
  intro p e s m args below meth c s₁ B hml hv
  obtain ⟨rfl, hsz, hP, hkn, hD0, hst⟩ := hv
  have hx := B.exec
  have hb := B.bytes
  have hr := B.returns
  have hts := atoms_spec (ws := wsX5_readRow) B.pre
  have hown : s.vm.findClass RX5 = some m.cls := findClass_of_methodNamed B.named
  have hlocks := B.notSynchronized
  subst hsz
  have hD := hD0.self (sz := s.heap.size)
  have hK := hkn.1
  have hAO := hkn.2.2.1
  generalize hAe : va_A [(h0, .inr (5, [.ref of, .ref k1, .ref k2, .ref k3, .ref k4, .int md, .int dn, .int fsu])), (k3, .inl (E.2.1 0, 7, .inl f3)), (k4, .inl (E.2.1 0, 7, .inl f4))] s.heap.size = A at hD hst ⊢
  have hA : ∀ q : Nat, s.heap.size ≤ q → A q := fun q h => by rw [← hAe]; exact Or.inr h
  have hS : va_S A s.heap s.heap [] := va_S.rf
  have hP : va_P E.1 vwCl [(h0, .inr (5, [.ref of, .ref k1, .ref k2, .ref k3, .ref k4, .int md, .int dn, .int fsu])), (k3, .inl (E.2.1 0, 7, .inl f3)), (k4, .inl (E.2.1 0, 7, .inl f4))] s.heap := hP
  have hl := lv_entry ([.ref h0, .int rw_]) (n := 4) (Nat.le_of_ble_eq_true rfl)
  rw [lg_entry_eq]
  generalize (lg_sl ([.ref h0, .int rw_]) ++ List.replicate (4 - (lg_sl ([.ref h0, .int rw_])).length) Slot.unset).toArray = ls at hl ⊢
  have hl : lv_has ls 4 [(0, .ref h0), (1, .int rw_)] := hl
  have fl15 := hts (.fieldLink RX5 15 "BoatsHome$Plan" "crewOf" "[I") (by first | exact List.mem_of_getElem? (i := 1) rfl | decide +kernel)
  have fl19 := hts (.fieldLink RX5 19 "BoatsHome$Plan" "dayOf" "[I") (by first | exact List.mem_of_getElem? (i := 2) rfl | decide +kernel)
  have inX5 : ∀ w ∈ u_ws RX5 TX5 8, w ∈ wsX5_readRow := by first | exact fun w h9 => (List.mem_cons_of_mem _ (List.mem_append_right _ h9)) | decide +kernel
  refine lv_iconst (v := 0) hx hb dX5_readRow_0 (by decide) ?_
  refine lv_istore_n (lv' := [(2, .int 0), (0, .ref h0), (1, .int rw_)]) hx hb dX5_readRow_1 rfl hl (by decide) rfl (fun ls hl => ?_)
  have hPl := hP.sub (ws' := [(h0, .inr (5, [.ref of, .ref k1, .ref k2, .ref k3, .ref k4, .int md, .int dn, .int fsu])), (k3, .inl (E.2.1 0, 7, .inl f3)), (k4, .inl (E.2.1 0, 7, .inl f4))]) [0, 1, 2] rfl
  have hDl := hD.sub (ws' := [(h0, .inr (5, [.ref of, .ref k1, .ref k2, .ref k3, .ref k4, .int md, .int dn, .int fsu])), (k3, .inl (E.2.1 0, 7, .inl f3)), (k4, .inl (E.2.1 0, 7, .inl f4))]) [0, 1, 2] (by decide) rfl
  refine lg_row E h0 of k1 k2 k3 k4 md dn fsu rw_ hx hb hml hown hts hkn hst hA  (fun n_1 n_2 H locs ls  hP hD hS hl => ?_) 8 0 f3 f4 _ _ _ (by omega) (by omega) hPl hDl hS (lv_sub hl [1, 2, 0] rfl)
  have hP : va_P E.1 vwCl [(h0, .inr (5, [.ref of, .ref k1, .ref k2, .ref k3, .ref k4, .int md, .int dn, .int fsu])), (k3, .inl (E.2.1 0, 7, .inl n_1)), (k4, .inl (E.2.1 0, 7, .inl n_2))] H := hP
  have hD : va_D A [(h0, .inr (5, [.ref of, .ref k1, .ref k2, .ref k3, .ref k4, .int md, .int dn, .int fsu])), (k3, .inl (E.2.1 0, 7, .inl n_1)), (k4, .inl (E.2.1 0, 7, .inl n_2))] := hD
  have hP9 := hP.sub (ws' := [(h0, .inr (5, [.ref of, .ref k1, .ref k2, .ref k3, .ref k4, .int md, .int dn, .int fsu])), (k3, .inl (E.2.1 0, 7, .inl n_1)), (k4, .inl (E.2.1 0, 7, .inl n_2))]) [0, 1, 2] rfl
  have hD9 := hD.sub (ws' := [(h0, .inr (5, [.ref of, .ref k1, .ref k2, .ref k3, .ref k4, .int md, .int dn, .int fsu])), (k3, .inl (E.2.1 0, 7, .inl n_1)), (k4, .inl (E.2.1 0, 7, .inl n_2))]) [0, 1, 2] (by decide) rfl
  exact W.vret hx hb hr (fun t ht hW => ⟨⟨(n_1, n_2), rfl, trivial, by rw [ht]; exact hP9, hD9⟩, hS.F ht⟩) hS.2.2 dX5_readRow_47
