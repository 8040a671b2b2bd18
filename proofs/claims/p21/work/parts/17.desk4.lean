set_option maxHeartbeats 4000000 in
set_option maxRecDepth 100000 in
theorem c_X11_insurer (l : Launch) (E : vE) (h0 : Nat) (tp : Nat) (rd : Nat) (se : Nat) (ba : Nat) (of : Nat) (pl : Nat) (sr : Nat) (sc : Nat) (wk : Int32) (bo_ : Nat) (sp : Nat) (pa : Nat) (ru : Nat) (co : Nat) (tr : Nat) (lt : Int32) (fb : Nat → Option Nat) (tk : Nat) (fk : Int32) (fq : Int32) (kd : Int32) (sa : Int32) (nu : Int32) (be : Int32) (f : Nat → Int32) (by_ : Nat) (ln : Nat) (bx : Nat) (bm_ : Nat) (lq : Int32) (mq : Int32) (lw : Int32) (bx2 : Nat) (bq : Nat) (lc : Int32) (mf : Int32) (li : Int32) (fx : Nat → Int32) (b : Int32) (sz : Nat) (hfb : inR b 0 5 = true → fb b.toNatClampNeg = some bo_) (hln : ln ≤ 800) (hbn : bq ≤ 12) : Met l yX11_insurer wsX11_insurer ({ frames := 9, cells := 0, slots := 0, locals := 196 }) (pcW E [.ref h0, .int b] sz [(h0, .inr (11, [.ref tp, .ref rd, .ref se, .ref ba, .ref of, .ref pl, .ref sr, .ref sc, .int wk])), (ba, .inl (E.2.1 4, 6, .inr (.inr (.inr (.inr fb))))), (bo_, .inr (0, [.ref sp, .ref pa, .int lt, .ref ru, .ref co, .ref tr])), (co, .inr (1, [.ref bx, .int (nI bm_), .int lq, .int mq, .int lw])), (rd, .inr (6, [.ref tk, .int fk, .int fq])), (tk, .inr (10, [.ref tp, .int kd, .int sa, .int nu, .int be])), (tp, .inr (9, [.ref by_, .int (nI ln)])), (by_, .inl (E.2.1 0, 800, .inl f)), (sc, .inr (1, [.ref bx2, .int (nI bq), .int lc, .int mf, .int li])), (bx2, .inl (E.2.1 0, 72, .inl fx))]) (va_Qi (fun (r : Int32) (u : Nat × Nat × Int32 × Int32 × Int32 × Int32 × Int32 × Int32 × Nat × Int32 × Int32 × Int32 × (Nat → Int32) × Nat) => match u with | (co2, sc2, fk2, fq2, kd2, sa2, nu2, be2, bn2, lc2, mf2, li2, fx2, ln2) => True) (fun (u : Nat × Nat × Int32 × Int32 × Int32 × Int32 × Int32 × Int32 × Nat × Int32 × Int32 × Int32 × (Nat → Int32) × Nat) (t : State) => match u with | (co2, sc2, fk2, fq2, kd2, sa2, nu2, be2, bn2, lc2, mf2, li2, fx2, ln2) => ((co2 = co ∧ sc2 = sc) ∨ (co2 = sc ∧ sc2 = co)) ∧ (ln2 ≤ 800) ∧ (bn2 ≤ 12) ∧ wB E (va_A [(h0, .inr (11, [.ref tp, .ref rd, .ref se, .ref ba, .ref of, .ref pl, .ref sr, .ref sc, .int wk])), (ba, .inl (E.2.1 4, 6, .inr (.inr (.inr (.inr fb))))), (bo_, .inr (0, [.ref sp, .ref pa, .int lt, .ref ru, .ref co, .ref tr])), (co, .inr (1, [.ref bx, .int (nI bm_), .int lq, .int mq, .int lw])), (rd, .inr (6, [.ref tk, .int fk, .int fq])), (tk, .inr (10, [.ref tp, .int kd, .int sa, .int nu, .int be])), (tp, .inr (9, [.ref by_, .int (nI ln)])), (by_, .inl (E.2.1 0, 800, .inl f)), (sc, .inr (1, [.ref bx2, .int (nI bq), .int lc, .int mf, .int li])), (bx2, .inl (E.2.1 0, 72, .inl fx))] sz) [(h0, .inr (11, [.ref tp, .ref rd, .ref se, .ref ba, .ref of, .ref pl, .ref sr, .ref sc2, .int wk])), (ba, .inl (E.2.1 4, 6, .inr (.inr (.inr (.inr fb))))), (bo_, .inr (0, [.ref sp, .ref pa, .int lt, .ref ru, .ref co2, .ref tr])), (co, .inr (1, [.ref bx, .int (nI bm_), .int lq, .int mq, .int lw])), (rd, .inr (6, [.ref tk, .int fk2, .int fq2])), (tk, .inr (10, [.ref tp, .int kd2, .int sa2, .int nu2, .int be2])), (tp, .inr (9, [.ref by_, .int (nI ln2)])), (by_, .inl (E.2.1 0, 800, .inl f)), (sc, .inr (1, [.ref bx2, .int (nI bn2), .int lc2, .int mf2, .int li2])), (bx2, .inl (E.2.1 0, 72, .inl fx2))] t) (va_A [(h0, .inr (11, [.ref tp, .ref rd, .ref se, .ref ba, .ref of, .ref pl, .ref sr, .ref sc, .int wk])), (ba, .inl (E.2.1 4, 6, .inr (.inr (.inr (.inr fb))))), (bo_, .inr (0, [.ref sp, .ref pa, .int lt, .ref ru, .ref co, .ref tr])), (co, .inr (1, [.ref bx, .int (nI bm_), .int lq, .int mq, .int lw])), (rd, .inr (6, [.ref tk, .int fk, .int fq])), (tk, .inr (10, [.ref tp, .int kd, .int sa, .int nu, .int be])), (tp, .inr (9, [.ref by_, .int (nI ln)])), (by_, .inl (E.2.1 0, 800, .inl f)), (sc, .inr (1, [.ref bx2, .int (nI bq), .int lc, .int mf, .int li])), (bx2, .inl (E.2.1 0, 72, .inl fx))] sz)) 0 0 (va_A [(h0, .inr (11, [.ref tp, .ref rd, .ref se, .ref ba, .ref of, .ref pl, .ref sr, .ref sc, .int wk])), (ba, .inl (E.2.1 4, 6, .inr (.inr (.inr (.inr fb))))), (bo_, .inr (0, [.ref sp, .ref pa, .int lt, .ref ru, .ref co, .ref tr])), (co, .inr (1, [.ref bx, .int (nI bm_), .int lq, .int mq, .int lw])), (rd, .inr (6, [.ref tk, .int fk, .int fq])), (tk, .inr (10, [.ref tp, .int kd, .int sa, .int nu, .int be])), (tp, .inr (9, [.ref by_, .int (nI ln)])), (by_, .inl (E.2.1 0, 800, .inl f)), (sc, .inr (1, [.ref bx2, .int (nI bq), .int lc, .int mf, .int li])), (bx2, .inl (E.2.1 0, 72, .inl fx))] sz) := by
  refine Met.ofW (cc := cX11_insurer) (maxL := 4) (ret := (some .int)) (by decide) rfl ?_
  intro p e s m args below meth c s₁ B hml hv
  obtain ⟨rfl, hsz, hP, hkn, hD0, hst⟩ := hv
  have hx := B.exec
  have hb := B.bytes
  have hr := B.returns
  have hts := atoms_spec (ws := wsX11_insurer) B.pre
  have hown : s.vm.findClass RX11 = some m.cls := findClass_of_methodNamed B.named
  have hlocks := B.notSynchronized
  subst hsz
  have hD := hD0.self (sz := s.heap.size)
  have hK := hkn.1
  have hAO := hkn.2.2.1
  generalize hAe : va_A [(h0, .inr (11, [.ref tp, .ref rd, .ref se, .ref ba, .ref of, .ref pl, .ref sr, .ref sc, .int wk])), (ba, .inl (E.2.1 4, 6, .inr (.inr (.inr (.inr fb))))), (bo_, .inr (0, [.ref sp, .ref pa, .int lt, .ref ru, .ref co, .ref tr])), (co, .inr (1, [.ref bx, .int (nI bm_), .int lq, .int mq, .int lw])), (rd, .inr (6, [.ref tk, .int fk, .int fq])), (tk, .inr (10, [.ref tp, .int kd, .int sa, .int nu, .int be])), (tp, .inr (9, [.ref by_, .int (nI ln)])), (by_, .inl (E.2.1 0, 800, .inl f)), (sc, .inr (1, [.ref bx2, .int (nI bq), .int lc, .int mf, .int li])), (bx2, .inl (E.2.1 0, 72, .inl fx))] s.heap.size = A at hD hst ⊢
  have hA : ∀ q : Nat, s.heap.size ≤ q → A q := fun q h => by rw [← hAe]; exact Or.inr h
  have hS : va_S A s.heap s.heap [] := va_S.rf
  have hP : va_P E.1 vwCl [(h0, .inr (11, [.ref tp, .ref rd, .ref se, .ref ba, .ref of, .ref pl, .ref sr, .ref sc, .int wk])), (ba, .inl (E.2.1 4, 6, .inr (.inr (.inr (.inr fb))))), (bo_, .inr (0, [.ref sp, .ref pa, .int lt, .ref ru, .ref co, .ref tr])), (co, .inr (1, [.ref bx, .int (nI bm_), .int lq, .int mq, .int lw])), (rd, .inr (6, [.ref tk, .int fk, .int fq])), (tk, .inr (10, [.ref tp, .int kd, .int sa, .int nu, .int be])), (tp, .inr (9, [.ref by_, .int (nI ln)])), (by_, .inl (E.2.1 0, 800, .inl f)), (sc, .inr (1, [.ref bx2, .int (nI bq), .int lc, .int mf, .int li])), (bx2, .inl (E.2.1 0, 72, .inl fx))] s.heap := hP
  have hl := lv_entry ([.ref h0, .int b]) (n := 4) (Nat.le_of_ble_eq_true rfl)
  rw [lg_entry_eq]
  generalize (lg_sl ([.ref h0, .int b]) ++ List.replicate (4 - (lg_sl ([.ref h0, .int b])).length) Slot.unset).toArray = ls at hl ⊢
  have hl : lv_has ls 4 [(0, .ref h0), (1, .int b)] := hl
  have fl10 := hts (.fieldLink RX11 10 "BoatsHome" "tape" "LBoatsHome$Tape;") (by first | exact List.mem_of_getElem? (i := 3) rfl | decide +kernel)
  have fl21 := hts (.fieldLink RX11 21 "BoatsHome" "reader" "LBoatsHome$Reader;") (by first | exact List.mem_of_getElem? (i := 1) rfl | decide +kernel)
  have fl34 := hts (.fieldLink RX11 34 "BoatsHome" "boats" "[LBoatsHome$Boat;") (by first | exact List.mem_of_getElem? (i := 5) rfl | decide +kernel)
  have fl65 := hts (.fieldLink RX11 65 "BoatsHome" "spareCover" "LBoatsHome$Cover;") (by first | exact List.mem_of_getElem? (i := 2) rfl | decide +kernel)
  have fl73 := hts (.fieldLink RX11 73 "BoatsHome$Tape" "length" "I") (by first | exact List.mem_of_getElem? (i := 4) rfl | decide +kernel)
  have fl128 := hts (.fieldLink RX11 128 "BoatsHome$Boat" "cover" "LBoatsHome$Cover;") (by first | exact List.mem_of_getElem? (i := 6) rfl | decide +kernel)
  have fl131 := hts (.fieldLink RX11 131 "BoatsHome$Cover" "lines" "I") (by first | exact List.mem_of_getElem? (i := 7) rfl | decide +kernel)
  have inX0 : ∀ w ∈ u_ws RX0 TX0 6, w ∈ wsX11_insurer := by first | exact fun w h9 => (List.mem_cons_of_mem _ (List.mem_append_left _ (List.mem_append_left _ (List.mem_append_left _ (List.mem_append_right _ h9))))) | decide +kernel
  have inX1 : ∀ w ∈ u_ws RX1 TX1 5, w ∈ wsX11_insurer := by first | exact fun w h9 => (List.mem_cons_of_mem _ (List.mem_append_left _ (List.mem_append_left _ (List.mem_append_right _ h9)))) | decide +kernel
  have inX11 : ∀ w ∈ u_ws RX11 TX11 9, w ∈ wsX11_insurer := by first | exact fun w h9 => (List.mem_cons_of_mem _ (List.mem_append_left _ (List.mem_append_left _ (List.mem_append_left _ (List.mem_append_left _ (List.mem_append_left _ (List.mem_append_right _ h9))))))) | decide +kernel
  have inX9 : ∀ w ∈ u_ws RX9 TX9 2, w ∈ wsX11_insurer := by first | exact fun w h9 => (List.mem_cons_of_mem _ (List.mem_append_left _ (List.mem_append_left _ (List.mem_append_left _ (List.mem_append_left _ (List.mem_append_right _ h9)))))) | decide +kernel
  refine lv_iload_n hx hb dX11_insurer_0 rfl (lv_at hl 1 rfl) ?_
  refine lv_bipush (v := 6) hx hb dX11_insurer_1 (by decide) ?_
  have hPc := hP.sub (ws' := []) [] rfl
  have hDc := hD.sub (ws' := []) [] (by decide) rfl
  have hFc := va_free (wc := []) hD hS hA [] rfl
  refine va_calli (va_runS (As := [.int b, .int 6]) (rest := []) ⟨hx, hb, hml, hown, hts⟩ (c_X11_below l E b 6 5 s.heap.size (lt_le (by decide))) (va_cwS 2 hts gX11_insurer_X11_below rfl rfl rfl hdS_X11_below ⟨Nat.le_of_ble_eq_true rfl, Nat.le_of_ble_eq_true rfl⟩) ⟨pcW_blind, (pcW_pre hPc hkn hDc hst hS hFc)⟩ rfl rfl hl.1 rfl (lv_room (Nat.le_of_ble_eq_true rfl)) dX11_insurer_3 ⟨Nat.le_of_ble_eq_true rfl, Nat.le_of_ble_eq_true rfl⟩) hS (fun q _ h => hFc q h) hFc (fun r_1 u t H1 locs ht hvm hw_2 hB hz1 hk1 hS => ?_)
  obtain ⟨hP1, hD1⟩ := hB
  rw [ht] at hP1
  try dsimp only at hw_2
  obtain ⟨hP, hD⟩ := va_join (wr := [(h0, .inr (11, [.ref tp, .ref rd, .ref se, .ref ba, .ref of, .ref pl, .ref sr, .ref sc, .int wk])), (ba, .inl (E.2.1 4, 6, .inr (.inr (.inr (.inr fb))))), (bo_, .inr (0, [.ref sp, .ref pa, .int lt, .ref ru, .ref co, .ref tr])), (co, .inr (1, [.ref bx, .int (nI bm_), .int lq, .int mq, .int lw])), (rd, .inr (6, [.ref tk, .int fk, .int fq])), (tk, .inr (10, [.ref tp, .int kd, .int sa, .int nu, .int be])), (tp, .inr (9, [.ref by_, .int (nI ln)])), (by_, .inl (E.2.1 0, 800, .inl f)), (sc, .inr (1, [.ref bx2, .int (nI bq), .int lc, .int mf, .int li])), (bx2, .inl (E.2.1 0, 72, .inl fx))]) (w1 := []) hP hD [] [0, 1, 2, 3, 4, 5, 6, 7, 8, 9] rfl rfl (by decide) (by decide) hk1 hFc hP1 hD1
  generalize H1 = H at hP hS ⊢
  have hP : va_P E.1 vwCl [(h0, .inr (11, [.ref tp, .ref rd, .ref se, .ref ba, .ref of, .ref pl, .ref sr, .ref sc, .int wk])), (ba, .inl (E.2.1 4, 6, .inr (.inr (.inr (.inr fb))))), (bo_, .inr (0, [.ref sp, .ref pa, .int lt, .ref ru, .ref co, .ref tr])), (co, .inr (1, [.ref bx, .int (nI bm_), .int lq, .int mq, .int lw])), (rd, .inr (6, [.ref tk, .int fk, .int fq])), (tk, .inr (10, [.ref tp, .int kd, .int sa, .int nu, .int be])), (tp, .inr (9, [.ref by_, .int (nI ln)])), (by_, .inl (E.2.1 0, 800, .inl f)), (sc, .inr (1, [.ref bx2, .int (nI bq), .int lc, .int mf, .int li])), (bx2, .inl (E.2.1 0, 72, .inl fx))] H := hP
  have hD : va_D A [(h0, .inr (11, [.ref tp, .ref rd, .ref se, .ref ba, .ref of, .ref pl, .ref sr, .ref sc, .int wk])), (ba, .inl (E.2.1 4, 6, .inr (.inr (.inr (.inr fb))))), (bo_, .inr (0, [.ref sp, .ref pa, .int lt, .ref ru, .ref co, .ref tr])), (co, .inr (1, [.ref bx, .int (nI bm_), .int lq, .int mq, .int lw])), (rd, .inr (6, [.ref tk, .int fk, .int fq])), (tk, .inr (10, [.ref tp, .int kd, .int sa, .int nu, .int be])), (tp, .inr (9, [.ref by_, .int (nI ln)])), (by_, .inl (E.2.1 0, 800, .inl f)), (sc, .inr (1, [.ref bx2, .int (nI bq), .int lc, .int mf, .int li])), (bx2, .inl (E.2.1 0, 72, .inl fx))] := hD
  refine lv_if_ne (tgt := 12) hx hb dX11_insurer_6 (by decide) (fun c_3 => ?_) (fun c_3 => ?_)
  · have b_4 : inR b 0 5 = true := bn hw_2 c_3
    refine lv_aload_n hx hb dX11_insurer_12 rfl (lv_at hl 0 rfl) ?_
    refine va_get (D := E.1) (ci := 11) (v := .ref rd) (C := RX11) (T := TX11) (N := 9) hx hb hts inX11 hown hK hP 0 rfl rfl 1 (by decide) fl21 (fun _ h9 => h9) rfl dX11_insurer_13 ?_
    refine lv_aload_n hx hb dX11_insurer_16 rfl (lv_at hl 0 rfl) ?_
    refine va_get (D := E.1) (ci := 11) (v := .ref sc) (C := RX11) (T := TX11) (N := 9) hx hb hts inX11 hown hK hP 0 rfl rfl 7 (by decide) fl65 (fun _ h9 => h9) rfl dX11_insurer_17 ?_
    have hPc := hP.sub (ws' := [(rd, .inr (6, [.ref tk, .int fk, .int fq])), (tk, .inr (10, [.ref tp, .int kd, .int sa, .int nu, .int be])), (tp, .inr (9, [.ref by_, .int (nI ln)])), (by_, .inl (E.2.1 0, 800, .inl f)), (sc, .inr (1, [.ref bx2, .int (nI bq), .int lc, .int mf, .int li])), (bx2, .inl (E.2.1 0, 72, .inl fx))]) [4, 5, 6, 7, 8, 9] rfl
    have hDc := hD.sub (ws' := [(rd, .inr (6, [.ref tk, .int fk, .int fq])), (tk, .inr (10, [.ref tp, .int kd, .int sa, .int nu, .int be])), (tp, .inr (9, [.ref by_, .int (nI ln)])), (by_, .inl (E.2.1 0, 800, .inl f)), (sc, .inr (1, [.ref bx2, .int (nI bq), .int lc, .int mf, .int li])), (bx2, .inl (E.2.1 0, 72, .inl fx))]) [4, 5, 6, 7, 8, 9] (by decide) rfl
    have hFc := va_free (wc := [(rd, .inr (6, [.ref tk, .int fk, .int fq])), (tk, .inr (10, [.ref tp, .int kd, .int sa, .int nu, .int be])), (tp, .inr (9, [.ref by_, .int (nI ln)])), (by_, .inl (E.2.1 0, 800, .inl f)), (sc, .inr (1, [.ref bx2, .int (nI bq), .int lc, .int mf, .int li])), (bx2, .inl (E.2.1 0, 72, .inl fx))]) hD hS hA [4, 5, 6, 7, 8, 9] rfl
    refine va_calli (va_runV (As := [.ref sc]) (rest := []) ⟨hx, hb, hml, hown, hts⟩ (c_X6_readCover l E rd tk tp by_ fk fq kd sa nu be (nI ln) f sc bx2 bq lc mf li fx H.size hbn) (cwV 1 hts gX11_insurer_X6_readCover rfl rfl rfl hdV_X6_readCover ⟨Nat.le_of_ble_eq_true rfl, Nat.le_of_ble_eq_true rfl⟩) ⟨pcW_blind, va_recv hK hPc (ci := 6) (q0 := 0) rfl rfl, (pcW_pre hPc hkn hDc hst hS hFc)⟩ rfl rfl hl.1 rfl (lv_room (Nat.le_of_ble_eq_true rfl)) dX11_insurer_20 ⟨Nat.le_of_ble_eq_true rfl, Nat.le_of_ble_eq_true rfl⟩) hS (fun q _ h => hFc q h) hFc (fun r_5 u t H1 locs ht hvm hw_6 hB hz1 hk1 hS => ?_)
    obtain ⟨u_7, u_8, u_9, u_10, u_11, u_12, u_13, u_14, u_15, u_16, u_17⟩ := u
    obtain ⟨hf_18, hP1, hD1⟩ := hB
    rw [ht] at hP1
    try dsimp only at hw_6
    obtain ⟨hP, hD⟩ := va_join (wr := [(h0, .inr (11, [.ref tp, .ref rd, .ref se, .ref ba, .ref of, .ref pl, .ref sr, .ref sc, .int wk])), (ba, .inl (E.2.1 4, 6, .inr (.inr (.inr (.inr fb))))), (bo_, .inr (0, [.ref sp, .ref pa, .int lt, .ref ru, .ref co, .ref tr])), (co, .inr (1, [.ref bx, .int (nI bm_), .int lq, .int mq, .int lw]))]) (w1 := [(rd, .inr (6, [.ref tk, .int u_7, .int u_8])), (tk, .inr (10, [.ref tp, .int u_9, .int u_10, .int u_11, .int u_12])), (tp, .inr (9, [.ref by_, .int (nI ln)])), (by_, .inl (E.2.1 0, 800, .inl f)), (sc, .inr (1, [.ref bx2, .int (nI u_13), .int u_14, .int u_15, .int u_16])), (bx2, .inl (E.2.1 0, 72, .inl u_17))]) hP hD [4, 5, 6, 7, 8, 9] [0, 1, 2, 3] rfl rfl (by decide) (by decide) hk1 hFc hP1 hD1
    generalize H1 = H at hP hS ⊢
    have hP : va_P E.1 vwCl [(h0, .inr (11, [.ref tp, .ref rd, .ref se, .ref ba, .ref of, .ref pl, .ref sr, .ref sc, .int wk])), (ba, .inl (E.2.1 4, 6, .inr (.inr (.inr (.inr fb))))), (bo_, .inr (0, [.ref sp, .ref pa, .int lt, .ref ru, .ref co, .ref tr])), (co, .inr (1, [.ref bx, .int (nI bm_), .int lq, .int mq, .int lw])), (rd, .inr (6, [.ref tk, .int u_7, .int u_8])), (tk, .inr (10, [.ref tp, .int u_9, .int u_10, .int u_11, .int u_12])), (tp, .inr (9, [.ref by_, .int (nI ln)])), (by_, .inl (E.2.1 0, 800, .inl f)), (sc, .inr (1, [.ref bx2, .int (nI u_13), .int u_14, .int u_15, .int u_16])), (bx2, .inl (E.2.1 0, 72, .inl u_17))] H := hP
    have hD : va_D A [(h0, .inr (11, [.ref tp, .ref rd, .ref se, .ref ba, .ref of, .ref pl, .ref sr, .ref sc, .int wk])), (ba, .inl (E.2.1 4, 6, .inr (.inr (.inr (.inr fb))))), (bo_, .inr (0, [.ref sp, .ref pa, .int lt, .ref ru, .ref co, .ref tr])), (co, .inr (1, [.ref bx, .int (nI bm_), .int lq, .int mq, .int lw])), (rd, .inr (6, [.ref tk, .int u_7, .int u_8])), (tk, .inr (10, [.ref tp, .int u_9, .int u_10, .int u_11, .int u_12])), (tp, .inr (9, [.ref by_, .int (nI ln)])), (by_, .inl (E.2.1 0, 800, .inl f)), (sc, .inr (1, [.ref bx2, .int (nI u_13), .int u_14, .int u_15, .int u_16])), (bx2, .inl (E.2.1 0, 72, .inl u_17))] := hD
    refine lv_istore_n (lv' := [(2, .int r_5), (0, .ref h0), (1, .int b)]) hx hb dX11_insurer_23 rfl hl (by decide) rfl (fun ls hl => ?_)
    refine lv_aload_n hx hb dX11_insurer_24 rfl (lv_at hl 1 rfl) ?_
    refine va_get (D := E.1) (ci := 11) (v := .ref tp) (C := RX11) (T := TX11) (N := 9) hx hb hts inX11 hown hK hP 0 rfl rfl 0 (by decide) fl10 (fun _ h9 => h9) rfl dX11_insurer_25 ?_
    refine lv_iconst (v := 0) hx hb dX11_insurer_28 (by decide) ?_
    refine va_put (D := E.1) (ci := 9) (v := .int 0) (ty := .int) (C := RX9) (T := TX9) (N := 2) hx hb hts inX9 tyX9 tyX9_ok nmX9 hown hK hP hD hS 6 rfl rfl 1 (by decide) fl73 (fun _ h9 => h9) rfl (by decide +kernel) rfl rfl (Nat.le_of_ble_eq_true rfl) dX11_insurer_29 (fun H locs hP hD hS => ?_)
    have hP : va_P E.1 vwCl [(h0, .inr (11, [.ref tp, .ref rd, .ref se, .ref ba, .ref of, .ref pl, .ref sr, .ref sc, .int wk])), (ba, .inl (E.2.1 4, 6, .inr (.inr (.inr (.inr fb))))), (bo_, .inr (0, [.ref sp, .ref pa, .int lt, .ref ru, .ref co, .ref tr])), (co, .inr (1, [.ref bx, .int (nI bm_), .int lq, .int mq, .int lw])), (rd, .inr (6, [.ref tk, .int u_7, .int u_8])), (tk, .inr (10, [.ref tp, .int u_9, .int u_10, .int u_11, .int u_12])), (tp, .inr (9, [.ref by_, .int 0])), (by_, .inl (E.2.1 0, 800, .inl f)), (sc, .inr (1, [.ref bx2, .int (nI u_13), .int u_14, .int u_15, .int u_16])), (bx2, .inl (E.2.1 0, 72, .inl u_17))] H := hP
    have hD : va_D A [(h0, .inr (11, [.ref tp, .ref rd, .ref se, .ref ba, .ref of, .ref pl, .ref sr, .ref sc, .int wk])), (ba, .inl (E.2.1 4, 6, .inr (.inr (.inr (.inr fb))))), (bo_, .inr (0, [.ref sp, .ref pa, .int lt, .ref ru, .ref co, .ref tr])), (co, .inr (1, [.ref bx, .int (nI bm_), .int lq, .int mq, .int lw])), (rd, .inr (6, [.ref tk, .int u_7, .int u_8])), (tk, .inr (10, [.ref tp, .int u_9, .int u_10, .int u_11, .int u_12])), (tp, .inr (9, [.ref by_, .int 0])), (by_, .inl (E.2.1 0, 800, .inl f)), (sc, .inr (1, [.ref bx2, .int (nI u_13), .int u_14, .int u_15, .int u_16])), (bx2, .inl (E.2.1 0, 72, .inl u_17))] := hD
    refine lv_iload_n hx hb dX11_insurer_32 rfl (lv_at hl 0 rfl) ?_
    refine lv_if_ne (tgt := 38) hx hb dX11_insurer_33 (by decide) (fun c_19 => ?_) (fun c_19 => ?_)
    · refine lv_aload_n hx hb dX11_insurer_38 rfl (lv_at hl 1 rfl) ?_
      refine va_get (D := E.1) (ci := 11) (v := .ref ba) (C := RX11) (T := TX11) (N := 9) hx hb hts inX11 hown hK hP 0 rfl rfl 3 (by decide) fl34 (fun _ h9 => h9) rfl dX11_insurer_39 ?_
      refine lv_iload_n hx hb dX11_insurer_42 rfl (lv_at hl 2 rfl) ?_
      have hi_20 : vp_in b 6 := inR_in (by decide) b_4
      refine va_aldq hx hb hK hP 1 4 rfl rfl hi_20 dX11_insurer_43 ?_
      rw [show va_rf (fb b.toNatClampNeg) = .ref bo_ from by rw [hfb b_4]; rfl]
      refine va_get (D := E.1) (ci := 0) (v := .ref co) (C := RX0) (T := TX0) (N := 6) hx hb hts inX0 hown hK hP 2 rfl rfl 4 (by decide) fl128 (fun _ h9 => h9) rfl dX11_insurer_44 ?_
      refine lv_astore_n (lv' := [(3, .ref co), (2, .int r_5), (0, .ref h0), (1, .int b)]) hx hb dX11_insurer_47 rfl hl (by decide) rfl (fun ls hl => ?_)
      refine lv_aload_n hx hb dX11_insurer_48 rfl (lv_at hl 2 rfl) ?_
      refine va_get (D := E.1) (ci := 11) (v := .ref ba) (C := RX11) (T := TX11) (N := 9) hx hb hts inX11 hown hK hP 0 rfl rfl 3 (by decide) fl34 (fun _ h9 => h9) rfl dX11_insurer_49 ?_
      refine lv_iload_n hx hb dX11_insurer_52 rfl (lv_at hl 3 rfl) ?_
      refine va_aldq hx hb hK hP 1 4 rfl rfl hi_20 dX11_insurer_53 ?_
      rw [show va_rf (fb b.toNatClampNeg) = .ref bo_ from by rw [hfb b_4]; rfl]
      refine lv_aload_n hx hb dX11_insurer_54 rfl (lv_at hl 2 rfl) ?_
      refine va_get (D := E.1) (ci := 11) (v := .ref sc) (C := RX11) (T := TX11) (N := 9) hx hb hts inX11 hown hK hP 0 rfl rfl 7 (by decide) fl65 (fun _ h9 => h9) rfl dX11_insurer_55 ?_
      refine va_put (D := E.1) (ci := 0) (v := .ref sc) (ty := .object "BoatsHome$Cover") (C := RX0) (T := TX0) (N := 6) hx hb hts inX0 tyX0 tyX0_ok nmX0 hown hK hP hD hS 2 rfl rfl 4 (by decide) fl128 (fun _ h9 => h9) rfl (by decide +kernel) rfl rfl (Nat.le_of_ble_eq_true rfl) dX11_insurer_58 (fun H locs hP hD hS => ?_)
      have hP : va_P E.1 vwCl [(h0, .inr (11, [.ref tp, .ref rd, .ref se, .ref ba, .ref of, .ref pl, .ref sr, .ref sc, .int wk])), (ba, .inl (E.2.1 4, 6, .inr (.inr (.inr (.inr fb))))), (bo_, .inr (0, [.ref sp, .ref pa, .int lt, .ref ru, .ref sc, .ref tr])), (co, .inr (1, [.ref bx, .int (nI bm_), .int lq, .int mq, .int lw])), (rd, .inr (6, [.ref tk, .int u_7, .int u_8])), (tk, .inr (10, [.ref tp, .int u_9, .int u_10, .int u_11, .int u_12])), (tp, .inr (9, [.ref by_, .int 0])), (by_, .inl (E.2.1 0, 800, .inl f)), (sc, .inr (1, [.ref bx2, .int (nI u_13), .int u_14, .int u_15, .int u_16])), (bx2, .inl (E.2.1 0, 72, .inl u_17))] H := hP
      have hD : va_D A [(h0, .inr (11, [.ref tp, .ref rd, .ref se, .ref ba, .ref of, .ref pl, .ref sr, .ref sc, .int wk])), (ba, .inl (E.2.1 4, 6, .inr (.inr (.inr (.inr fb))))), (bo_, .inr (0, [.ref sp, .ref pa, .int lt, .ref ru, .ref sc, .ref tr])), (co, .inr (1, [.ref bx, .int (nI bm_), .int lq, .int mq, .int lw])), (rd, .inr (6, [.ref tk, .int u_7, .int u_8])), (tk, .inr (10, [.ref tp, .int u_9, .int u_10, .int u_11, .int u_12])), (tp, .inr (9, [.ref by_, .int 0])), (by_, .inl (E.2.1 0, 800, .inl f)), (sc, .inr (1, [.ref bx2, .int (nI u_13), .int u_14, .int u_15, .int u_16])), (bx2, .inl (E.2.1 0, 72, .inl u_17))] := hD
      refine lv_aload_n hx hb dX11_insurer_61 rfl (lv_at hl 2 rfl) ?_
      refine lv_aload_n hx hb dX11_insurer_62 rfl (lv_at hl 0 rfl) ?_
      refine va_put (D := E.1) (ci := 11) (v := .ref co) (ty := .object "BoatsHome$Cover") (C := RX11) (T := TX11) (N := 9) hx hb hts inX11 tyX11 tyX11_ok nmX11 hown hK hP hD hS 0 rfl rfl 7 (by decide) fl65 (fun _ h9 => h9) rfl (by decide +kernel) rfl rfl (Nat.le_of_ble_eq_true rfl) dX11_insurer_63 (fun H locs hP hD hS => ?_)
      have hP : va_P E.1 vwCl [(h0, .inr (11, [.ref tp, .ref rd, .ref se, .ref ba, .ref of, .ref pl, .ref sr, .ref co, .int wk])), (ba, .inl (E.2.1 4, 6, .inr (.inr (.inr (.inr fb))))), (bo_, .inr (0, [.ref sp, .ref pa, .int lt, .ref ru, .ref sc, .ref tr])), (co, .inr (1, [.ref bx, .int (nI bm_), .int lq, .int mq, .int lw])), (rd, .inr (6, [.ref tk, .int u_7, .int u_8])), (tk, .inr (10, [.ref tp, .int u_9, .int u_10, .int u_11, .int u_12])), (tp, .inr (9, [.ref by_, .int 0])), (by_, .inl (E.2.1 0, 800, .inl f)), (sc, .inr (1, [.ref bx2, .int (nI u_13), .int u_14, .int u_15, .int u_16])), (bx2, .inl (E.2.1 0, 72, .inl u_17))] H := hP
      have hD : va_D A [(h0, .inr (11, [.ref tp, .ref rd, .ref se, .ref ba, .ref of, .ref pl, .ref sr, .ref co, .int wk])), (ba, .inl (E.2.1 4, 6, .inr (.inr (.inr (.inr fb))))), (bo_, .inr (0, [.ref sp, .ref pa, .int lt, .ref ru, .ref sc, .ref tr])), (co, .inr (1, [.ref bx, .int (nI bm_), .int lq, .int mq, .int lw])), (rd, .inr (6, [.ref tk, .int u_7, .int u_8])), (tk, .inr (10, [.ref tp, .int u_9, .int u_10, .int u_11, .int u_12])), (tp, .inr (9, [.ref by_, .int 0])), (by_, .inl (E.2.1 0, 800, .inl f)), (sc, .inr (1, [.ref bx2, .int (nI u_13), .int u_14, .int u_15, .int u_16])), (bx2, .inl (E.2.1 0, 72, .inl u_17))] := hD
      refine lv_aload_n hx hb dX11_insurer_66 rfl (lv_at hl 2 rfl) ?_
      refine va_get (D := E.1) (ci := 11) (v := .ref ba) (C := RX11) (T := TX11) (N := 9) hx hb hts inX11 hown hK hP 0 rfl rfl 3 (by decide) fl34 (fun _ h9 => h9) rfl dX11_insurer_67 ?_
      refine lv_iload_n hx hb dX11_insurer_70 rfl (lv_at hl 3 rfl) ?_
      refine va_aldq hx hb hK hP 1 4 rfl rfl hi_20 dX11_insurer_71 ?_
      rw [show va_rf (fb b.toNatClampNeg) = .ref bo_ from by rw [hfb b_4]; rfl]
      refine va_get (D := E.1) (ci := 0) (v := .ref sc) (C := RX0) (T := TX0) (N := 6) hx hb hts inX0 hown hK hP 2 rfl rfl 4 (by decide) fl128 (fun _ h9 => h9) rfl dX11_insurer_72 ?_
      refine va_get (D := E.1) (ci := 1) (v := .int u_16) (C := RX1) (T := TX1) (N := 5) hx hb hts inX1 hown hK hP 8 rfl rfl 4 (by decide) fl131 (fun _ h9 => h9) rfl dX11_insurer_75 ?_
      have hP9 := hP.sub (ws' := [(h0, .inr (11, [.ref tp, .ref rd, .ref se, .ref ba, .ref of, .ref pl, .ref sr, .ref co, .int wk])), (ba, .inl (E.2.1 4, 6, .inr (.inr (.inr (.inr fb))))), (bo_, .inr (0, [.ref sp, .ref pa, .int lt, .ref ru, .ref sc, .ref tr])), (co, .inr (1, [.ref bx, .int (nI bm_), .int lq, .int mq, .int lw])), (rd, .inr (6, [.ref tk, .int u_7, .int u_8])), (tk, .inr (10, [.ref tp, .int u_9, .int u_10, .int u_11, .int u_12])), (tp, .inr (9, [.ref by_, .int 0])), (by_, .inl (E.2.1 0, 800, .inl f)), (sc, .inr (1, [.ref bx2, .int (nI u_13), .int u_14, .int u_15, .int u_16])), (bx2, .inl (E.2.1 0, 72, .inl u_17))]) [0, 1, 2, 3, 4, 5, 6, 7, 8, 9] rfl
      have hD9 := hD.sub (ws' := [(h0, .inr (11, [.ref tp, .ref rd, .ref se, .ref ba, .ref of, .ref pl, .ref sr, .ref co, .int wk])), (ba, .inl (E.2.1 4, 6, .inr (.inr (.inr (.inr fb))))), (bo_, .inr (0, [.ref sp, .ref pa, .int lt, .ref ru, .ref sc, .ref tr])), (co, .inr (1, [.ref bx, .int (nI bm_), .int lq, .int mq, .int lw])), (rd, .inr (6, [.ref tk, .int u_7, .int u_8])), (tk, .inr (10, [.ref tp, .int u_9, .int u_10, .int u_11, .int u_12])), (tp, .inr (9, [.ref by_, .int 0])), (by_, .inl (E.2.1 0, 800, .inl f)), (sc, .inr (1, [.ref bx2, .int (nI u_13), .int u_14, .int u_15, .int u_16])), (bx2, .inl (E.2.1 0, 72, .inl u_17))]) [0, 1, 2, 3, 4, 5, 6, 7, 8, 9] (by decide) rfl
      exact W.iret (v := u_16) hx hb hr (fun t ht hW => ⟨⟨u_16, (sc, co, u_7, u_8, u_9, u_10, u_11, u_12, u_13, u_14, u_15, u_16, u_17, 0), rfl, trivial, Or.inr ⟨rfl, rfl⟩, (by omega), hf_18, by rw [ht]; exact hP9, hD9⟩, hS.F ht⟩) hS.2.2 dX11_insurer_78
    · refine lv_iconst (v := (-1)) hx hb dX11_insurer_36 (by decide) ?_
      have hP9 := hP.sub (ws' := [(h0, .inr (11, [.ref tp, .ref rd, .ref se, .ref ba, .ref of, .ref pl, .ref sr, .ref sc, .int wk])), (ba, .inl (E.2.1 4, 6, .inr (.inr (.inr (.inr fb))))), (bo_, .inr (0, [.ref sp, .ref pa, .int lt, .ref ru, .ref co, .ref tr])), (co, .inr (1, [.ref bx, .int (nI bm_), .int lq, .int mq, .int lw])), (rd, .inr (6, [.ref tk, .int u_7, .int u_8])), (tk, .inr (10, [.ref tp, .int u_9, .int u_10, .int u_11, .int u_12])), (tp, .inr (9, [.ref by_, .int 0])), (by_, .inl (E.2.1 0, 800, .inl f)), (sc, .inr (1, [.ref bx2, .int (nI u_13), .int u_14, .int u_15, .int u_16])), (bx2, .inl (E.2.1 0, 72, .inl u_17))]) [0, 1, 2, 3, 4, 5, 6, 7, 8, 9] rfl
      have hD9 := hD.sub (ws' := [(h0, .inr (11, [.ref tp, .ref rd, .ref se, .ref ba, .ref of, .ref pl, .ref sr, .ref sc, .int wk])), (ba, .inl (E.2.1 4, 6, .inr (.inr (.inr (.inr fb))))), (bo_, .inr (0, [.ref sp, .ref pa, .int lt, .ref ru, .ref co, .ref tr])), (co, .inr (1, [.ref bx, .int (nI bm_), .int lq, .int mq, .int lw])), (rd, .inr (6, [.ref tk, .int u_7, .int u_8])), (tk, .inr (10, [.ref tp, .int u_9, .int u_10, .int u_11, .int u_12])), (tp, .inr (9, [.ref by_, .int 0])), (by_, .inl (E.2.1 0, 800, .inl f)), (sc, .inr (1, [.ref bx2, .int (nI u_13), .int u_14, .int u_15, .int u_16])), (bx2, .inl (E.2.1 0, 72, .inl u_17))]) [0, 1, 2, 3, 4, 5, 6, 7, 8, 9] (by decide) rfl
      exact W.iret (v := (-1)) hx hb hr (fun t ht hW => ⟨⟨(-1), (co, sc, u_7, u_8, u_9, u_10, u_11, u_12, u_13, u_14, u_15, u_16, u_17, 0), rfl, trivial, Or.inl ⟨rfl, rfl⟩, (by omega), hf_18, by rw [ht]; exact hP9, hD9⟩, hS.F ht⟩) hS.2.2 dX11_insurer_37
  · have b_21 : inR b 0 5 = false := bz hw_2 c_3
    refine lv_bipush (v := (-2)) hx hb dX11_insurer_9 (by decide) ?_
    have hP9 := hP.sub (ws' := [(h0, .inr (11, [.ref tp, .ref rd, .ref se, .ref ba, .ref of, .ref pl, .ref sr, .ref sc, .int wk])), (ba, .inl (E.2.1 4, 6, .inr (.inr (.inr (.inr fb))))), (bo_, .inr (0, [.ref sp, .ref pa, .int lt, .ref ru, .ref co, .ref tr])), (co, .inr (1, [.ref bx, .int (nI bm_), .int lq, .int mq, .int lw])), (rd, .inr (6, [.ref tk, .int fk, .int fq])), (tk, .inr (10, [.ref tp, .int kd, .int sa, .int nu, .int be])), (tp, .inr (9, [.ref by_, .int (nI ln)])), (by_, .inl (E.2.1 0, 800, .inl f)), (sc, .inr (1, [.ref bx2, .int (nI bq), .int lc, .int mf, .int li])), (bx2, .inl (E.2.1 0, 72, .inl fx))]) [0, 1, 2, 3, 4, 5, 6, 7, 8, 9] rfl
    have hD9 := hD.sub (ws' := [(h0, .inr (11, [.ref tp, .ref rd, .ref se, .ref ba, .ref of, .ref pl, .ref sr, .ref sc, .int wk])), (ba, .inl (E.2.1 4, 6, .inr (.inr (.inr (.inr fb))))), (bo_, .inr (0, [.ref sp, .ref pa, .int lt, .ref ru, .ref co, .ref tr])), (co, .inr (1, [.ref bx, .int (nI bm_), .int lq, .int mq, .int lw])), (rd, .inr (6, [.ref tk, .int fk, .int fq])), (tk, .inr (10, [.ref tp, .int kd, .int sa, .int nu, .int be])), (tp, .inr (9, [.ref by_, .int (nI ln)])), (by_, .inl (E.2.1 0, 800, .inl f)), (sc, .inr (1, [.ref bx2, .int (nI bq), .int lc, .int mf, .int li])), (bx2, .inl (E.2.1 0, 72, .inl fx))]) [0, 1, 2, 3, 4, 5, 6, 7, 8, 9] (by decide) rfl
    exact W.iret (v := (-2)) hx hb hr (fun t ht hW => ⟨⟨(-2), (co, sc, fk, fq, kd, sa, nu, be, bq, lc, mf, li, fx, ln), rfl, trivial, Or.inl ⟨rfl, rfl⟩, (by omega), hbn, by rw [ht]; exact hP9, hD9⟩, hS.F ht⟩) hS.2.2 dX11_insurer_11
set_option maxHeartbeats 4000000 in
set_option maxRecDepth 100000 in
theorem c_X11_speed (l : Launch) (E : vE) (h0 : Nat) (tp : Nat) (rd : Nat) (se : Nat) (ba : Nat) (of : Nat) (pl : Nat) (sr : Nat) (sc : Nat) (wk : Int32) (bo_ : Nat) (sp : Nat) (pa : Nat) (ru : Nat) (co : Nat) (tr : Nat) (lt : Int32) (fb : Nat → Option Nat) (fs_ : Nat → Int32) (b : Int32) (angle : Int32) (band : Int32) (tenths : Int32) (sz : Nat) (hfb : inR b 0 5 = true → fb b.toNatClampNeg = some bo_) : Met l yX11_speed wsX11_speed ({ frames := 2, cells := 0, slots := 0, locals := 40 }) (pcW E [.ref h0, .int b, .int angle, .int band, .int tenths] sz [(h0, .inr (11, [.ref tp, .ref rd, .ref se, .ref ba, .ref of, .ref pl, .ref sr, .ref sc, .int wk])), (ba, .inl (E.2.1 4, 6, .inr (.inr (.inr (.inr fb))))), (bo_, .inr (0, [.ref sp, .ref pa, .int lt, .ref ru, .ref co, .ref tr])), (sp, .inl (E.2.1 0, 25, .inl fs_))]) (va_Qi (fun (r : Int32) (fs2 : (Nat → Int32)) => ((inR b 0 5 && inR angle 0 4 && inR band 0 4 && inR tenths 0 40) = true ∧ r = fs_ (angle * 5 + band).toNatClampNeg ∧ fs2 = upd fs_ (angle * 5 + band).toNatClampNeg tenths) ∨ ((inR b 0 5 && inR angle 0 4 && inR band 0 4 && inR tenths 0 40) = false ∧ r = -2 ∧ fs2 = fs_)) (fun (fs2 : (Nat → Int32)) (t : State) => wB E (va_A [(h0, .inr (11, [.ref tp, .ref rd, .ref se, .ref ba, .ref of, .ref pl, .ref sr, .ref sc, .int wk])), (ba, .inl (E.2.1 4, 6, .inr (.inr (.inr (.inr fb))))), (bo_, .inr (0, [.ref sp, .ref pa, .int lt, .ref ru, .ref co, .ref tr])), (sp, .inl (E.2.1 0, 25, .inl fs_))] sz) [(h0, .inr (11, [.ref tp, .ref rd, .ref se, .ref ba, .ref of, .ref pl, .ref sr, .ref sc, .int wk])), (ba, .inl (E.2.1 4, 6, .inr (.inr (.inr (.inr fb))))), (bo_, .inr (0, [.ref sp, .ref pa, .int lt, .ref ru, .ref co, .ref tr])), (sp, .inl (E.2.1 0, 25, .inl fs2))] t) (va_A [(h0, .inr (11, [.ref tp, .ref rd, .ref se, .ref ba, .ref of, .ref pl, .ref sr, .ref sc, .int wk])), (ba, .inl (E.2.1 4, 6, .inr (.inr (.inr (.inr fb))))), (bo_, .inr (0, [.ref sp, .ref pa, .int lt, .ref ru, .ref co, .ref tr])), (sp, .inl (E.2.1 0, 25, .inl fs_))] sz)) 0 0 (va_A [(h0, .inr (11, [.ref tp, .ref rd, .ref se, .ref ba, .ref of, .ref pl, .ref sr, .ref sc, .int wk])), (ba, .inl (E.2.1 4, 6, .inr (.inr (.inr (.inr fb))))), (bo_, .inr (0, [.ref sp, .ref pa, .int lt, .ref ru, .ref co, .ref tr])), (sp, .inl (E.2.1 0, 25, .inl fs_))] sz) := by
  refine Met.ofW (cc := cX11_speed) (maxL := 7) (ret := (some .int)) (by decide) rfl ?_
  intro p e s m args below meth c s₁ B hml hv
  obtain ⟨rfl, hsz, hP, hkn, hD0, hst⟩ := hv
  have hx := B.exec
  have hb := B.bytes
  have hr := B.returns
  have hts := atoms_spec (ws := wsX11_speed) B.pre
  have hown : s.vm.findClass RX11 = some m.cls := findClass_of_methodNamed B.named
  have hlocks := B.notSynchronized
  subst hsz
  have hD := hD0.self (sz := s.heap.size)
  have hK := hkn.1
  have hAO := hkn.2.2.1
  generalize hAe : va_A [(h0, .inr (11, [.ref tp, .ref rd, .ref se, .ref ba, .ref of, .ref pl, .ref sr, .ref sc, .int wk])), (ba, .inl (E.2.1 4, 6, .inr (.inr (.inr (.inr fb))))), (bo_, .inr (0, [.ref sp, .ref pa, .int lt, .ref ru, .ref co, .ref tr])), (sp, .inl (E.2.1 0, 25, .inl fs_))] s.heap.size = A at hD hst ⊢
  have hA : ∀ q : Nat, s.heap.size ≤ q → A q := fun q h => by rw [← hAe]; exact Or.inr h
  have hS : va_S A s.heap s.heap [] := va_S.rf
  have hP : va_P E.1 vwCl [(h0, .inr (11, [.ref tp, .ref rd, .ref se, .ref ba, .ref of, .ref pl, .ref sr, .ref sc, .int wk])), (ba, .inl (E.2.1 4, 6, .inr (.inr (.inr (.inr fb))))), (bo_, .inr (0, [.ref sp, .ref pa, .int lt, .ref ru, .ref co, .ref tr])), (sp, .inl (E.2.1 0, 25, .inl fs_))] s.heap := hP
  have hl := lv_entry ([.ref h0, .int b, .int angle, .int band, .int tenths]) (n := 7) (Nat.le_of_ble_eq_true rfl)
  rw [lg_entry_eq]
  generalize (lg_sl ([.ref h0, .int b, .int angle, .int band, .int tenths]) ++ List.replicate (7 - (lg_sl ([.ref h0, .int b, .int angle, .int band, .int tenths])).length) Slot.unset).toArray = ls at hl ⊢
  have hl : lv_has ls 7 [(0, .ref h0), (1, .int b), (2, .int angle), (3, .int band), (4, .int tenths)] := hl
  have fl34 := hts (.fieldLink RX11 34 "BoatsHome" "boats" "[LBoatsHome$Boat;") (by first | exact List.mem_of_getElem? (i := 1) rfl | decide +kernel)
  have fl99 := hts (.fieldLink RX11 99 "BoatsHome$Boat" "speeds" "[I") (by first | exact List.mem_of_getElem? (i := 2) rfl | decide +kernel)
  have inX0 : ∀ w ∈ u_ws RX0 TX0 6, w ∈ wsX11_speed := by first | exact fun w h9 => (List.mem_cons_of_mem _ (List.mem_append_right _ h9)) | decide +kernel
  have inX11 : ∀ w ∈ u_ws RX11 TX11 9, w ∈ wsX11_speed := by first | exact fun w h9 => (List.mem_cons_of_mem _ (List.mem_append_left _ (List.mem_append_right _ h9))) | decide +kernel
  refine lv_iload_n hx hb dX11_speed_0 rfl (lv_at hl 1 rfl) ?_
  refine lv_bipush (v := 6) hx hb dX11_speed_1 (by decide) ?_
  have hPc := hP.sub (ws' := []) [] rfl
  have hDc := hD.sub (ws' := []) [] (by decide) rfl
  have hFc := va_free (wc := []) hD hS hA [] rfl
  refine va_calli (va_runS (As := [.int b, .int 6]) (rest := []) ⟨hx, hb, hml, hown, hts⟩ (c_X11_below l E b 6 5 s.heap.size (lt_le (by decide))) (va_cwS 2 hts gX11_speed_X11_below rfl rfl rfl hdS_X11_below ⟨Nat.le_of_ble_eq_true rfl, Nat.le_of_ble_eq_true rfl⟩) ⟨pcW_blind, (pcW_pre hPc hkn hDc hst hS hFc)⟩ rfl rfl hl.1 rfl (lv_room (Nat.le_of_ble_eq_true rfl)) dX11_speed_3 ⟨Nat.le_of_ble_eq_true rfl, Nat.le_of_ble_eq_true rfl⟩) hS (fun q _ h => hFc q h) hFc (fun r_1 u t H1 locs ht hvm hw_2 hB hz1 hk1 hS => ?_)
  obtain ⟨hP1, hD1⟩ := hB
  rw [ht] at hP1
  try dsimp only at hw_2
  obtain ⟨hP, hD⟩ := va_join (wr := [(h0, .inr (11, [.ref tp, .ref rd, .ref se, .ref ba, .ref of, .ref pl, .ref sr, .ref sc, .int wk])), (ba, .inl (E.2.1 4, 6, .inr (.inr (.inr (.inr fb))))), (bo_, .inr (0, [.ref sp, .ref pa, .int lt, .ref ru, .ref co, .ref tr])), (sp, .inl (E.2.1 0, 25, .inl fs_))]) (w1 := []) hP hD [] [0, 1, 2, 3] rfl rfl (by decide) (by decide) hk1 hFc hP1 hD1
  generalize H1 = H at hP hS ⊢
  have hP : va_P E.1 vwCl [(h0, .inr (11, [.ref tp, .ref rd, .ref se, .ref ba, .ref of, .ref pl, .ref sr, .ref sc, .int wk])), (ba, .inl (E.2.1 4, 6, .inr (.inr (.inr (.inr fb))))), (bo_, .inr (0, [.ref sp, .ref pa, .int lt, .ref ru, .ref co, .ref tr])), (sp, .inl (E.2.1 0, 25, .inl fs_))] H := hP
  have hD : va_D A [(h0, .inr (11, [.ref tp, .ref rd, .ref se, .ref ba, .ref of, .ref pl, .ref sr, .ref sc, .int wk])), (ba, .inl (E.2.1 4, 6, .inr (.inr (.inr (.inr fb))))), (bo_, .inr (0, [.ref sp, .ref pa, .int lt, .ref ru, .ref co, .ref tr])), (sp, .inl (E.2.1 0, 25, .inl fs_))] := hD
  refine lv_if_eq (tgt := 36) hx hb dX11_speed_6 (by decide) (fun c_3 => ?_) (fun c_3 => ?_)
  · have b_4 : inR b 0 5 = false := bz hw_2 c_3
    refine lv_bipush (v := (-2)) hx hb dX11_speed_36 (by decide) ?_
    have hP9 := hP.sub (ws' := [(h0, .inr (11, [.ref tp, .ref rd, .ref se, .ref ba, .ref of, .ref pl, .ref sr, .ref sc, .int wk])), (ba, .inl (E.2.1 4, 6, .inr (.inr (.inr (.inr fb))))), (bo_, .inr (0, [.ref sp, .ref pa, .int lt, .ref ru, .ref co, .ref tr])), (sp, .inl (E.2.1 0, 25, .inl fs_))]) [0, 1, 2, 3] rfl
    have hD9 := hD.sub (ws' := [(h0, .inr (11, [.ref tp, .ref rd, .ref se, .ref ba, .ref of, .ref pl, .ref sr, .ref sc, .int wk])), (ba, .inl (E.2.1 4, 6, .inr (.inr (.inr (.inr fb))))), (bo_, .inr (0, [.ref sp, .ref pa, .int lt, .ref ru, .ref co, .ref tr])), (sp, .inl (E.2.1 0, 25, .inl fs_))]) [0, 1, 2, 3] (by decide) rfl
    exact W.iret (v := (-2)) hx hb hr (fun t ht hW => ⟨⟨(-2), fs_, rfl, Or.inr ⟨(by first | (rw [b_4]; done) | (rw [b_4]; rfl)), rfl, rfl⟩, by rw [ht]; exact hP9, hD9⟩, hS.F ht⟩) hS.2.2 dX11_speed_38
  · have b_5 : inR b 0 5 = true := bn hw_2 c_3
    refine lv_iload_n hx hb dX11_speed_9 rfl (lv_at hl 2 rfl) ?_
    refine lv_iconst (v := 5) hx hb dX11_speed_10 (by decide) ?_
    have hPc := hP.sub (ws' := []) [] rfl
    have hDc := hD.sub (ws' := []) [] (by decide) rfl
    have hFc := va_free (wc := []) hD hS hA [] rfl
    refine va_calli (va_runS (As := [.int angle, .int 5]) (rest := []) ⟨hx, hb, hml, hown, hts⟩ (c_X11_below l E angle 5 4 H.size (lt_le (by decide))) (va_cwS 2 hts gX11_speed_X11_below rfl rfl rfl hdS_X11_below ⟨Nat.le_of_ble_eq_true rfl, Nat.le_of_ble_eq_true rfl⟩) ⟨pcW_blind, (pcW_pre hPc hkn hDc hst hS hFc)⟩ rfl rfl hl.1 rfl (lv_room (Nat.le_of_ble_eq_true rfl)) dX11_speed_11 ⟨Nat.le_of_ble_eq_true rfl, Nat.le_of_ble_eq_true rfl⟩) hS (fun q _ h => hFc q h) hFc (fun r_6 u t H1 locs ht hvm hw_7 hB hz1 hk1 hS => ?_)
    obtain ⟨hP1, hD1⟩ := hB
    rw [ht] at hP1
    try dsimp only at hw_7
    obtain ⟨hP, hD⟩ := va_join (wr := [(h0, .inr (11, [.ref tp, .ref rd, .ref se, .ref ba, .ref of, .ref pl, .ref sr, .ref sc, .int wk])), (ba, .inl (E.2.1 4, 6, .inr (.inr (.inr (.inr fb))))), (bo_, .inr (0, [.ref sp, .ref pa, .int lt, .ref ru, .ref co, .ref tr])), (sp, .inl (E.2.1 0, 25, .inl fs_))]) (w1 := []) hP hD [] [0, 1, 2, 3] rfl rfl (by decide) (by decide) hk1 hFc hP1 hD1
    generalize H1 = H at hP hS ⊢
    have hP : va_P E.1 vwCl [(h0, .inr (11, [.ref tp, .ref rd, .ref se, .ref ba, .ref of, .ref pl, .ref sr, .ref sc, .int wk])), (ba, .inl (E.2.1 4, 6, .inr (.inr (.inr (.inr fb))))), (bo_, .inr (0, [.ref sp, .ref pa, .int lt, .ref ru, .ref co, .ref tr])), (sp, .inl (E.2.1 0, 25, .inl fs_))] H := hP
    have hD : va_D A [(h0, .inr (11, [.ref tp, .ref rd, .ref se, .ref ba, .ref of, .ref pl, .ref sr, .ref sc, .int wk])), (ba, .inl (E.2.1 4, 6, .inr (.inr (.inr (.inr fb))))), (bo_, .inr (0, [.ref sp, .ref pa, .int lt, .ref ru, .ref co, .ref tr])), (sp, .inl (E.2.1 0, 25, .inl fs_))] := hD
    refine lv_if_eq (tgt := 36) hx hb dX11_speed_14 (by decide) (fun c_8 => ?_) (fun c_8 => ?_)
    · have b_9 : inR angle 0 4 = false := bz hw_7 c_8
      refine lv_bipush (v := (-2)) hx hb dX11_speed_36 (by decide) ?_
      have hP9 := hP.sub (ws' := [(h0, .inr (11, [.ref tp, .ref rd, .ref se, .ref ba, .ref of, .ref pl, .ref sr, .ref sc, .int wk])), (ba, .inl (E.2.1 4, 6, .inr (.inr (.inr (.inr fb))))), (bo_, .inr (0, [.ref sp, .ref pa, .int lt, .ref ru, .ref co, .ref tr])), (sp, .inl (E.2.1 0, 25, .inl fs_))]) [0, 1, 2, 3] rfl
      have hD9 := hD.sub (ws' := [(h0, .inr (11, [.ref tp, .ref rd, .ref se, .ref ba, .ref of, .ref pl, .ref sr, .ref sc, .int wk])), (ba, .inl (E.2.1 4, 6, .inr (.inr (.inr (.inr fb))))), (bo_, .inr (0, [.ref sp, .ref pa, .int lt, .ref ru, .ref co, .ref tr])), (sp, .inl (E.2.1 0, 25, .inl fs_))]) [0, 1, 2, 3] (by decide) rfl
      exact W.iret (v := (-2)) hx hb hr (fun t ht hW => ⟨⟨(-2), fs_, rfl, Or.inr ⟨(by first | (rw [b_5, b_9]; done) | (rw [b_5, b_9]; rfl)), rfl, rfl⟩, by rw [ht]; exact hP9, hD9⟩, hS.F ht⟩) hS.2.2 dX11_speed_38
    · have b_10 : inR angle 0 4 = true := bn hw_7 c_8
      refine lv_iload_n hx hb dX11_speed_17 rfl (lv_at hl 3 rfl) ?_
      refine lv_iconst (v := 5) hx hb dX11_speed_18 (by decide) ?_
      have hPc := hP.sub (ws' := []) [] rfl
      have hDc := hD.sub (ws' := []) [] (by decide) rfl
      have hFc := va_free (wc := []) hD hS hA [] rfl
      refine va_calli (va_runS (As := [.int band, .int 5]) (rest := []) ⟨hx, hb, hml, hown, hts⟩ (c_X11_below l E band 5 4 H.size (lt_le (by decide))) (va_cwS 2 hts gX11_speed_X11_below rfl rfl rfl hdS_X11_below ⟨Nat.le_of_ble_eq_true rfl, Nat.le_of_ble_eq_true rfl⟩) ⟨pcW_blind, (pcW_pre hPc hkn hDc hst hS hFc)⟩ rfl rfl hl.1 rfl (lv_room (Nat.le_of_ble_eq_true rfl)) dX11_speed_19 ⟨Nat.le_of_ble_eq_true rfl, Nat.le_of_ble_eq_true rfl⟩) hS (fun q _ h => hFc q h) hFc (fun r_11 u t H1 locs ht hvm hw_12 hB hz1 hk1 hS => ?_)
      obtain ⟨hP1, hD1⟩ := hB
      rw [ht] at hP1
      try dsimp only at hw_12
      obtain ⟨hP, hD⟩ := va_join (wr := [(h0, .inr (11, [.ref tp, .ref rd, .ref se, .ref ba, .ref of, .ref pl, .ref sr, .ref sc, .int wk])), (ba, .inl (E.2.1 4, 6, .inr (.inr (.inr (.inr fb))))), (bo_, .inr (0, [.ref sp, .ref pa, .int lt, .ref ru, .ref co, .ref tr])), (sp, .inl (E.2.1 0, 25, .inl fs_))]) (w1 := []) hP hD [] [0, 1, 2, 3] rfl rfl (by decide) (by decide) hk1 hFc hP1 hD1
      generalize H1 = H at hP hS ⊢
      have hP : va_P E.1 vwCl [(h0, .inr (11, [.ref tp, .ref rd, .ref se, .ref ba, .ref of, .ref pl, .ref sr, .ref sc, .int wk])), (ba, .inl (E.2.1 4, 6, .inr (.inr (.inr (.inr fb))))), (bo_, .inr (0, [.ref sp, .ref pa, .int lt, .ref ru, .ref co, .ref tr])), (sp, .inl (E.2.1 0, 25, .inl fs_))] H := hP
      have hD : va_D A [(h0, .inr (11, [.ref tp, .ref rd, .ref se, .ref ba, .ref of, .ref pl, .ref sr, .ref sc, .int wk])), (ba, .inl (E.2.1 4, 6, .inr (.inr (.inr (.inr fb))))), (bo_, .inr (0, [.ref sp, .ref pa, .int lt, .ref ru, .ref co, .ref tr])), (sp, .inl (E.2.1 0, 25, .inl fs_))] := hD
      refine lv_if_eq (tgt := 36) hx hb dX11_speed_22 (by decide) (fun c_13 => ?_) (fun c_13 => ?_)
      · have b_14 : inR band 0 4 = false := bz hw_12 c_13
        refine lv_bipush (v := (-2)) hx hb dX11_speed_36 (by decide) ?_
        have hP9 := hP.sub (ws' := [(h0, .inr (11, [.ref tp, .ref rd, .ref se, .ref ba, .ref of, .ref pl, .ref sr, .ref sc, .int wk])), (ba, .inl (E.2.1 4, 6, .inr (.inr (.inr (.inr fb))))), (bo_, .inr (0, [.ref sp, .ref pa, .int lt, .ref ru, .ref co, .ref tr])), (sp, .inl (E.2.1 0, 25, .inl fs_))]) [0, 1, 2, 3] rfl
        have hD9 := hD.sub (ws' := [(h0, .inr (11, [.ref tp, .ref rd, .ref se, .ref ba, .ref of, .ref pl, .ref sr, .ref sc, .int wk])), (ba, .inl (E.2.1 4, 6, .inr (.inr (.inr (.inr fb))))), (bo_, .inr (0, [.ref sp, .ref pa, .int lt, .ref ru, .ref co, .ref tr])), (sp, .inl (E.2.1 0, 25, .inl fs_))]) [0, 1, 2, 3] (by decide) rfl
        exact W.iret (v := (-2)) hx hb hr (fun t ht hW => ⟨⟨(-2), fs_, rfl, Or.inr ⟨(by first | (rw [b_5, b_10, b_14]; done) | (rw [b_5, b_10, b_14]; rfl)), rfl, rfl⟩, by rw [ht]; exact hP9, hD9⟩, hS.F ht⟩) hS.2.2 dX11_speed_38
      · have b_15 : inR band 0 4 = true := bn hw_12 c_13
        refine lv_iload hx hb dX11_speed_25 (lv_at hl 4 rfl) ?_
        refine lv_iconst (v := 0) hx hb dX11_speed_27 (by decide) ?_
        refine lv_bipush (v := 40) hx hb dX11_speed_28 (by decide) ?_
        have hPc := hP.sub (ws' := []) [] rfl
        have hDc := hD.sub (ws' := []) [] (by decide) rfl
        have hFc := va_free (wc := []) hD hS hA [] rfl
        refine va_calli (va_runS (As := [.int tenths, .int 0, .int 40]) (rest := []) ⟨hx, hb, hml, hown, hts⟩ (c_X11_within l E tenths 0 40 H.size ) (va_cwS 3 hts gX11_speed_X11_within rfl rfl rfl hdS_X11_within ⟨Nat.le_of_ble_eq_true rfl, Nat.le_of_ble_eq_true rfl⟩) ⟨pcW_blind, (pcW_pre hPc hkn hDc hst hS hFc)⟩ rfl rfl hl.1 rfl (lv_room (Nat.le_of_ble_eq_true rfl)) dX11_speed_30 ⟨Nat.le_of_ble_eq_true rfl, Nat.le_of_ble_eq_true rfl⟩) hS (fun q _ h => hFc q h) hFc (fun r_16 u t H1 locs ht hvm hw_17 hB hz1 hk1 hS => ?_)
        obtain ⟨hP1, hD1⟩ := hB
        rw [ht] at hP1
        try dsimp only at hw_17
        obtain ⟨hP, hD⟩ := va_join (wr := [(h0, .inr (11, [.ref tp, .ref rd, .ref se, .ref ba, .ref of, .ref pl, .ref sr, .ref sc, .int wk])), (ba, .inl (E.2.1 4, 6, .inr (.inr (.inr (.inr fb))))), (bo_, .inr (0, [.ref sp, .ref pa, .int lt, .ref ru, .ref co, .ref tr])), (sp, .inl (E.2.1 0, 25, .inl fs_))]) (w1 := []) hP hD [] [0, 1, 2, 3] rfl rfl (by decide) (by decide) hk1 hFc hP1 hD1
        generalize H1 = H at hP hS ⊢
        have hP : va_P E.1 vwCl [(h0, .inr (11, [.ref tp, .ref rd, .ref se, .ref ba, .ref of, .ref pl, .ref sr, .ref sc, .int wk])), (ba, .inl (E.2.1 4, 6, .inr (.inr (.inr (.inr fb))))), (bo_, .inr (0, [.ref sp, .ref pa, .int lt, .ref ru, .ref co, .ref tr])), (sp, .inl (E.2.1 0, 25, .inl fs_))] H := hP
        have hD : va_D A [(h0, .inr (11, [.ref tp, .ref rd, .ref se, .ref ba, .ref of, .ref pl, .ref sr, .ref sc, .int wk])), (ba, .inl (E.2.1 4, 6, .inr (.inr (.inr (.inr fb))))), (bo_, .inr (0, [.ref sp, .ref pa, .int lt, .ref ru, .ref co, .ref tr])), (sp, .inl (E.2.1 0, 25, .inl fs_))] := hD
        refine lv_if_ne (tgt := 39) hx hb dX11_speed_33 (by decide) (fun c_18 => ?_) (fun c_18 => ?_)
        · have b_19 : inR tenths 0 40 = true := bn hw_17 c_18
          refine lv_iload_n hx hb dX11_speed_39 rfl (lv_at hl 2 rfl) ?_
          refine lv_iconst (v := 5) hx hb dX11_speed_40 (by decide) ?_
          refine lv_imul hx hb dX11_speed_41 ?_
          refine lv_topi (fun x_20 ex_20 => ?_)
          refine lv_iload_n hx hb dX11_speed_42 rfl (lv_at hl 3 rfl) ?_
          refine lv_iadd hx hb dX11_speed_43 ?_
          refine lv_topi (fun x_21 ex_21 => ?_)
          refine lv_istore (lv' := [(5, .int x_21), (0, .ref h0), (1, .int b), (2, .int angle), (3, .int band), (4, .int tenths)]) hx hb dX11_speed_44 hl (by decide) rfl (fun ls hl => ?_)
          refine lv_aload_n hx hb dX11_speed_46 rfl (lv_at hl 1 rfl) ?_
          refine va_get (D := E.1) (ci := 11) (v := .ref ba) (C := RX11) (T := TX11) (N := 9) hx hb hts inX11 hown hK hP 0 rfl rfl 3 (by decide) fl34 (fun _ h9 => h9) rfl dX11_speed_47 ?_
          refine lv_iload_n hx hb dX11_speed_50 rfl (lv_at hl 2 rfl) ?_
          have hi_22 : vp_in b 6 := inR_in (by decide) b_5
          refine va_aldq hx hb hK hP 1 4 rfl rfl hi_22 dX11_speed_51 ?_
          rw [show va_rf (fb b.toNatClampNeg) = .ref bo_ from by rw [hfb b_5]; rfl]
          refine va_get (D := E.1) (ci := 0) (v := .ref sp) (C := RX0) (T := TX0) (N := 6) hx hb hts inX0 hown hK hP 2 rfl rfl 0 (by decide) fl99 (fun _ h9 => h9) rfl dX11_speed_52 ?_
          refine lv_iload hx hb dX11_speed_55 (lv_at hl 0 rfl) ?_
          have hi_23 : vp_in x_21 25 := by rw [ex_21, ex_20]; exact ixA b_10 (a := 4) (by decide) b_15 (b := 4) (by decide) (M := 5) rfl (by decide) (by decide)
          refine va_iald hx hb hK hP 3 0 rfl rfl hi_23 dX11_speed_57 ?_
          refine lv_topi (fun x_24 ex_24 => ?_)
          refine lv_istore (lv' := [(6, .int x_24), (5, .int x_21), (0, .ref h0), (1, .int b), (2, .int angle), (3, .int band), (4, .int tenths)]) hx hb dX11_speed_58 hl (by decide) rfl (fun ls hl => ?_)
          refine lv_aload_n hx hb dX11_speed_60 rfl (lv_at hl 2 rfl) ?_
          refine va_get (D := E.1) (ci := 11) (v := .ref ba) (C := RX11) (T := TX11) (N := 9) hx hb hts inX11 hown hK hP 0 rfl rfl 3 (by decide) fl34 (fun _ h9 => h9) rfl dX11_speed_61 ?_
          refine lv_iload_n hx hb dX11_speed_64 rfl (lv_at hl 3 rfl) ?_
          refine va_aldq hx hb hK hP 1 4 rfl rfl hi_22 dX11_speed_65 ?_
          rw [show va_rf (fb b.toNatClampNeg) = .ref bo_ from by rw [hfb b_5]; rfl]
          refine va_get (D := E.1) (ci := 0) (v := .ref sp) (C := RX0) (T := TX0) (N := 6) hx hb hts inX0 hown hK hP 2 rfl rfl 0 (by decide) fl99 (fun _ h9 => h9) rfl dX11_speed_66 ?_
          refine lv_iload hx hb dX11_speed_69 (lv_at hl 1 rfl) ?_
          refine lv_iload hx hb dX11_speed_71 (lv_at hl 6 rfl) ?_
          refine va_iast hx hb hK hP hD hS 3 0 rfl rfl hi_23 dX11_speed_73 (fun H locs hP hD hS => ?_)
          have hP : va_P E.1 vwCl [(h0, .inr (11, [.ref tp, .ref rd, .ref se, .ref ba, .ref of, .ref pl, .ref sr, .ref sc, .int wk])), (ba, .inl (E.2.1 4, 6, .inr (.inr (.inr (.inr fb))))), (bo_, .inr (0, [.ref sp, .ref pa, .int lt, .ref ru, .ref co, .ref tr])), (sp, .inl (E.2.1 0, 25, .inl (upd fs_ x_21.toNatClampNeg tenths)))] H := hP
          have hD : va_D A [(h0, .inr (11, [.ref tp, .ref rd, .ref se, .ref ba, .ref of, .ref pl, .ref sr, .ref sc, .int wk])), (ba, .inl (E.2.1 4, 6, .inr (.inr (.inr (.inr fb))))), (bo_, .inr (0, [.ref sp, .ref pa, .int lt, .ref ru, .ref co, .ref tr])), (sp, .inl (E.2.1 0, 25, .inl (upd fs_ x_21.toNatClampNeg tenths)))] := hD
          obtain ⟨f_25, ef_25⟩ : ∃ g : Nat → Int32, g = upd fs_ x_21.toNatClampNeg tenths := ⟨_, rfl⟩
          rw [← ef_25] at hP hD
          refine lv_iload hx hb dX11_speed_74 (lv_at hl 0 rfl) ?_
          have hP9 := hP.sub (ws' := [(h0, .inr (11, [.ref tp, .ref rd, .ref se, .ref ba, .ref of, .ref pl, .ref sr, .ref sc, .int wk])), (ba, .inl (E.2.1 4, 6, .inr (.inr (.inr (.inr fb))))), (bo_, .inr (0, [.ref sp, .ref pa, .int lt, .ref ru, .ref co, .ref tr])), (sp, .inl (E.2.1 0, 25, .inl f_25))]) [0, 1, 2, 3] rfl
          have hD9 := hD.sub (ws' := [(h0, .inr (11, [.ref tp, .ref rd, .ref se, .ref ba, .ref of, .ref pl, .ref sr, .ref sc, .int wk])), (ba, .inl (E.2.1 4, 6, .inr (.inr (.inr (.inr fb))))), (bo_, .inr (0, [.ref sp, .ref pa, .int lt, .ref ru, .ref co, .ref tr])), (sp, .inl (E.2.1 0, 25, .inl f_25))]) [0, 1, 2, 3] (by decide) rfl
          exact W.iret (v := x_24) hx hb hr (fun t ht hW => ⟨⟨x_24, f_25, rfl, Or.inl ⟨(by first | (rw [b_5, b_10, b_15, b_19]; done) | (rw [b_5, b_10, b_15, b_19]; rfl)), by rw [ex_24, ex_21, ex_20], by rw [ef_25, ex_21, ex_20]⟩, by rw [ht]; exact hP9, hD9⟩, hS.F ht⟩) hS.2.2 dX11_speed_76
        · have b_26 : inR tenths 0 40 = false := bz hw_17 c_18
          refine lv_bipush (v := (-2)) hx hb dX11_speed_36 (by decide) ?_
          have hP9 := hP.sub (ws' := [(h0, .inr (11, [.ref tp, .ref rd, .ref se, .ref ba, .ref of, .ref pl, .ref sr, .ref sc, .int wk])), (ba, .inl (E.2.1 4, 6, .inr (.inr (.inr (.inr fb))))), (bo_, .inr (0, [.ref sp, .ref pa, .int lt, .ref ru, .ref co, .ref tr])), (sp, .inl (E.2.1 0, 25, .inl fs_))]) [0, 1, 2, 3] rfl
          have hD9 := hD.sub (ws' := [(h0, .inr (11, [.ref tp, .ref rd, .ref se, .ref ba, .ref of, .ref pl, .ref sr, .ref sc, .int wk])), (ba, .inl (E.2.1 4, 6, .inr (.inr (.inr (.inr fb))))), (bo_, .inr (0, [.ref sp, .ref pa, .int lt, .ref ru, .ref co, .ref tr])), (sp, .inl (E.2.1 0, 25, .inl fs_))]) [0, 1, 2, 3] (by decide) rfl
          exact W.iret (v := (-2)) hx hb hr (fun t ht hW => ⟨⟨(-2), fs_, rfl, Or.inr ⟨(by first | (rw [b_5, b_10, b_15, b_26]; done) | (rw [b_5, b_10, b_15, b_26]; rfl)), rfl, rfl⟩, by rw [ht]; exact hP9, hD9⟩, hS.F ht⟩) hS.2.2 dX11_speed_38
set_option maxHeartbeats 4000000 in
set_option maxRecDepth 100000 in
theorem c_X2_add (l : Launch) (E : vE) (h0 : Nat) (g1 : Nat) (g2 : Nat) (g3 : Nat) (g4 : Nat) (g5 : Nat) (g6 : Nat) (g7 : Nat) (g8 : Nat) (on : Nat) (d1 : Nat → Int32) (d2 : Nat → Int32) (d3 : Nat → Int32) (d4 : Nat → Int32) (d5 : Nat → Int32) (fr : Int32) (to_ : Int32) (le : Int32) (fi : Int32) (la : Int32) (sz : Nat) (hon : on < 7) (hd1 : ∀ k, k < 7 → inR (d1 k) 0 9 = true) (hfr : inR fr 0 9 = true) : Met l yX2_add wsX2_add ({ frames := 1, cells := 0, slots := 0, locals := 21 }) (pcW E [.ref h0, .int fr, .int to_, .int le, .int fi, .int la] sz [(h0, .inr (2, [.ref g1, .ref g2, .ref g3, .ref g4, .ref g5, .int (nI on), .ref g6, .ref g7, .ref g8])), (g1, .inl (E.2.1 0, 7, .inl d1)), (g2, .inl (E.2.1 0, 7, .inl d2)), (g3, .inl (E.2.1 0, 7, .inl d3)), (g4, .inl (E.2.1 0, 7, .inl d4)), (g5, .inl (E.2.1 0, 7, .inl d5))]) (va_Qi (fun (r : Int32) (u : (Nat → Int32) × (Nat → Int32) × (Nat → Int32) × (Nat → Int32) × (Nat → Int32)) => match u with | (d12, d22, d32, d42, d52) => r = nI on) (fun (u : (Nat → Int32) × (Nat → Int32) × (Nat → Int32) × (Nat → Int32) × (Nat → Int32)) (t : State) => match u with | (d12, d22, d32, d42, d52) => (∀ k, k < 7 → inR (d12 k) 0 9 = true) ∧ wB E (va_A [(h0, .inr (2, [.ref g1, .ref g2, .ref g3, .ref g4, .ref g5, .int (nI on), .ref g6, .ref g7, .ref g8])), (g1, .inl (E.2.1 0, 7, .inl d1)), (g2, .inl (E.2.1 0, 7, .inl d2)), (g3, .inl (E.2.1 0, 7, .inl d3)), (g4, .inl (E.2.1 0, 7, .inl d4)), (g5, .inl (E.2.1 0, 7, .inl d5))] sz) [(h0, .inr (2, [.ref g1, .ref g2, .ref g3, .ref g4, .ref g5, .int (nI (on + 1)), .ref g6, .ref g7, .ref g8])), (g1, .inl (E.2.1 0, 7, .inl d12)), (g2, .inl (E.2.1 0, 7, .inl d22)), (g3, .inl (E.2.1 0, 7, .inl d32)), (g4, .inl (E.2.1 0, 7, .inl d42)), (g5, .inl (E.2.1 0, 7, .inl d52))] t) (va_A [(h0, .inr (2, [.ref g1, .ref g2, .ref g3, .ref g4, .ref g5, .int (nI on), .ref g6, .ref g7, .ref g8])), (g1, .inl (E.2.1 0, 7, .inl d1)), (g2, .inl (E.2.1 0, 7, .inl d2)), (g3, .inl (E.2.1 0, 7, .inl d3)), (g4, .inl (E.2.1 0, 7, .inl d4)), (g5, .inl (E.2.1 0, 7, .inl d5))] sz)) 0 0 (va_A [(h0, .inr (2, [.ref g1, .ref g2, .ref g3, .ref g4, .ref g5, .int (nI on), .ref g6, .ref g7, .ref g8])), (g1, .inl (E.2.1 0, 7, .inl d1)), (g2, .inl (E.2.1 0, 7, .inl d2)), (g3, .inl (E.2.1 0, 7, .inl d3)), (g4, .inl (E.2.1 0, 7, .inl d4)), (g5, .inl (E.2.1 0, 7, .inl d5))] sz) := by
  refine Met.ofW (cc := cX2_add) (maxL := 6) (ret := (some .int)) (by decide) rfl ?_
  intro p e s m args below meth c s₁ B hml hv
  obtain ⟨rfl, hsz, hP, hkn, hD0, hst⟩ := hv
  have hx := B.exec
  have hb := B.bytes
  have hr := B.returns
  have hts := atoms_spec (ws := wsX2_add) B.pre
  have hown : s.vm.findClass RX2 = some m.cls := findClass_of_methodNamed B.named
  have hlocks := B.notSynchronized
  subst hsz
  have hD := hD0.self (sz := s.heap.size)
  have hK := hkn.1
  have hAO := hkn.2.2.1
  generalize hAe : va_A [(h0, .inr (2, [.ref g1, .ref g2, .ref g3, .ref g4, .ref g5, .int (nI on), .ref g6, .ref g7, .ref g8])), (g1, .inl (E.2.1 0, 7, .inl d1)), (g2, .inl (E.2.1 0, 7, .inl d2)), (g3, .inl (E.2.1 0, 7, .inl d3)), (g4, .inl (E.2.1 0, 7, .inl d4)), (g5, .inl (E.2.1 0, 7, .inl d5))] s.heap.size = A at hD hst ⊢
  have hA : ∀ q : Nat, s.heap.size ≤ q → A q := fun q h => by rw [← hAe]; exact Or.inr h
  have hS : va_S A s.heap s.heap [] := va_S.rf
  have hP : va_P E.1 vwCl [(h0, .inr (2, [.ref g1, .ref g2, .ref g3, .ref g4, .ref g5, .int (nI on), .ref g6, .ref g7, .ref g8])), (g1, .inl (E.2.1 0, 7, .inl d1)), (g2, .inl (E.2.1 0, 7, .inl d2)), (g3, .inl (E.2.1 0, 7, .inl d3)), (g4, .inl (E.2.1 0, 7, .inl d4)), (g5, .inl (E.2.1 0, 7, .inl d5))] s.heap := hP
  have hl := lv_entry ([.ref h0, .int fr, .int to_, .int le, .int fi, .int la]) (n := 6) (Nat.le_of_ble_eq_true rfl)
  rw [lg_entry_eq]
  generalize (lg_sl ([.ref h0, .int fr, .int to_, .int le, .int fi, .int la]) ++ List.replicate (6 - (lg_sl ([.ref h0, .int fr, .int to_, .int le, .int fi, .int la])).length) Slot.unset).toArray = ls at hl ⊢
  have hl : lv_has ls 6 [(0, .ref h0), (1, .int fr), (2, .int to_), (3, .int le), (4, .int fi), (5, .int la)] := hl
  have fl9 := hts (.fieldLink RX2 9 "BoatsHome$Offers" "from" "[I") (by first | exact List.mem_of_getElem? (i := 2) rfl | decide +kernel)
  have fl15 := hts (.fieldLink RX2 15 "BoatsHome$Offers" "to" "[I") (by first | exact List.mem_of_getElem? (i := 3) rfl | decide +kernel)
  have fl18 := hts (.fieldLink RX2 18 "BoatsHome$Offers" "days" "[I") (by first | exact List.mem_of_getElem? (i := 4) rfl | decide +kernel)
  have fl21 := hts (.fieldLink RX2 21 "BoatsHome$Offers" "first" "[I") (by first | exact List.mem_of_getElem? (i := 5) rfl | decide +kernel)
  have fl24 := hts (.fieldLink RX2 24 "BoatsHome$Offers" "last" "[I") (by first | exact List.mem_of_getElem? (i := 6) rfl | decide +kernel)
  have fl27 := hts (.fieldLink RX2 27 "BoatsHome$Offers" "size" "I") (by first | exact List.mem_of_getElem? (i := 1) rfl | decide +kernel)
  have inX2 : ∀ w ∈ u_ws RX2 TX2 9, w ∈ wsX2_add := by first | exact fun w h9 => (List.mem_cons_of_mem _ (List.mem_append_right _ h9)) | decide +kernel
  refine lv_aload_n hx hb dX2_add_0 rfl (lv_at hl 0 rfl) ?_
  refine va_get (D := E.1) (ci := 2) (v := .int (nI on)) (C := RX2) (T := TX2) (N := 9) hx hb hts inX2 hown hK hP 0 rfl rfl 5 (by decide) fl27 (fun _ h9 => h9) rfl dX2_add_1 ?_
  refine lv_bipush (v := 7) hx hb dX2_add_4 (by decide) ?_
  have hPc := hP.sub (ws' := []) [] rfl
  have hDc := hD.sub (ws' := []) [] (by decide) rfl
  have hFc := va_free (wc := []) hD hS hA [] rfl
  refine va_calli (va_runSN (As := [.int (nI on), .int 7]) (rest := []) ⟨hx, hb, hml, hown, hts⟩ (c_X11_below l E (nI on) 7 6 s.heap.size (lt_le (by decide))) ⟨va_cnB 2 hts gX2_add_X11_below_n46 rfl rfl rfl (hkn.2.1 (.methodLinkNest RX2 46 yX11_below "BoatsHome") (by decide +kernel)) (hts (.initialized RX11) (by first | exact List.mem_of_getElem? (i := 8) rfl | decide +kernel)) (by decide +kernel) ⟨Nat.le_of_ble_eq_true rfl, Nat.le_of_ble_eq_true rfl⟩, hts (.static yX11_below) (by first | exact List.mem_of_getElem? (i := 7) rfl | decide +kernel), trivial⟩ ⟨pcW_blind, (pcW_pre hPc hkn hDc hst hS hFc)⟩ rfl rfl hl.1 rfl (lv_room (Nat.le_of_ble_eq_true rfl)) dX2_add_6 ⟨Nat.le_of_ble_eq_true rfl, Nat.le_of_ble_eq_true rfl⟩) hS (fun q _ h => hFc q h) hFc (fun r_1 u t H1 locs ht hvm hw_2 hB hz1 hk1 hS => ?_)
  obtain ⟨hP1, hD1⟩ := hB
  rw [ht] at hP1
  try dsimp only at hw_2
  obtain ⟨hP, hD⟩ := va_join (wr := [(h0, .inr (2, [.ref g1, .ref g2, .ref g3, .ref g4, .ref g5, .int (nI on), .ref g6, .ref g7, .ref g8])), (g1, .inl (E.2.1 0, 7, .inl d1)), (g2, .inl (E.2.1 0, 7, .inl d2)), (g3, .inl (E.2.1 0, 7, .inl d3)), (g4, .inl (E.2.1 0, 7, .inl d4)), (g5, .inl (E.2.1 0, 7, .inl d5))]) (w1 := []) hP hD [] [0, 1, 2, 3, 4, 5] rfl rfl (by decide) (by decide) hk1 hFc hP1 hD1
  generalize H1 = H at hP hS ⊢
  have hP : va_P E.1 vwCl [(h0, .inr (2, [.ref g1, .ref g2, .ref g3, .ref g4, .ref g5, .int (nI on), .ref g6, .ref g7, .ref g8])), (g1, .inl (E.2.1 0, 7, .inl d1)), (g2, .inl (E.2.1 0, 7, .inl d2)), (g3, .inl (E.2.1 0, 7, .inl d3)), (g4, .inl (E.2.1 0, 7, .inl d4)), (g5, .inl (E.2.1 0, 7, .inl d5))] H := hP
  have hD : va_D A [(h0, .inr (2, [.ref g1, .ref g2, .ref g3, .ref g4, .ref g5, .int (nI on), .ref g6, .ref g7, .ref g8])), (g1, .inl (E.2.1 0, 7, .inl d1)), (g2, .inl (E.2.1 0, 7, .inl d2)), (g3, .inl (E.2.1 0, 7, .inl d3)), (g4, .inl (E.2.1 0, 7, .inl d4)), (g5, .inl (E.2.1 0, 7, .inl d5))] := hD
  obtain rfl : r_1 = 1 := hw_2.trans (bI_on hon)
  refine lv_if_ne (tgt := 15) hx hb dX2_add_9 (by decide) (fun _ => ?_) (fun c9 => absurd c9 (by decide))
  refine lv_aload_n hx hb dX2_add_15 rfl (lv_at hl 0 rfl) ?_
  refine va_get (D := E.1) (ci := 2) (v := .ref g1) (C := RX2) (T := TX2) (N := 9) hx hb hts inX2 hown hK hP 0 rfl rfl 0 (by decide) fl9 (fun _ h9 => h9) rfl dX2_add_16 ?_
  refine lv_aload_n hx hb dX2_add_19 rfl (lv_at hl 0 rfl) ?_
  refine va_get (D := E.1) (ci := 2) (v := .int (nI on)) (C := RX2) (T := TX2) (N := 9) hx hb hts inX2 hown hK hP 0 rfl rfl 5 (by decide) fl27 (fun _ h9 => h9) rfl dX2_add_20 ?_
  refine lv_iload_n hx hb dX2_add_23 rfl (lv_at hl 1 rfl) ?_
  have hi_3 : vp_in (nI on) 7 := vp_in_nI hon (by decide)
  refine va_iast hx hb hK hP hD hS 1 0 rfl rfl hi_3 dX2_add_24 (fun H locs hP hD hS => ?_)
  have hP : va_P E.1 vwCl [(h0, .inr (2, [.ref g1, .ref g2, .ref g3, .ref g4, .ref g5, .int (nI on), .ref g6, .ref g7, .ref g8])), (g1, .inl (E.2.1 0, 7, .inl (upd d1 (nI on).toNatClampNeg fr))), (g2, .inl (E.2.1 0, 7, .inl d2)), (g3, .inl (E.2.1 0, 7, .inl d3)), (g4, .inl (E.2.1 0, 7, .inl d4)), (g5, .inl (E.2.1 0, 7, .inl d5))] H := hP
  have hD : va_D A [(h0, .inr (2, [.ref g1, .ref g2, .ref g3, .ref g4, .ref g5, .int (nI on), .ref g6, .ref g7, .ref g8])), (g1, .inl (E.2.1 0, 7, .inl (upd d1 (nI on).toNatClampNeg fr))), (g2, .inl (E.2.1 0, 7, .inl d2)), (g3, .inl (E.2.1 0, 7, .inl d3)), (g4, .inl (E.2.1 0, 7, .inl d4)), (g5, .inl (E.2.1 0, 7, .inl d5))] := hD
  obtain ⟨f_4, ef_4⟩ : ∃ g : Nat → Int32, g = upd d1 (nI on).toNatClampNeg fr := ⟨_, rfl⟩
  rw [← ef_4] at hP hD
  refine lv_aload_n hx hb dX2_add_25 rfl (lv_at hl 0 rfl) ?_
  refine va_get (D := E.1) (ci := 2) (v := .ref g2) (C := RX2) (T := TX2) (N := 9) hx hb hts inX2 hown hK hP 0 rfl rfl 1 (by decide) fl15 (fun _ h9 => h9) rfl dX2_add_26 ?_
  refine lv_aload_n hx hb dX2_add_29 rfl (lv_at hl 0 rfl) ?_
  refine va_get (D := E.1) (ci := 2) (v := .int (nI on)) (C := RX2) (T := TX2) (N := 9) hx hb hts inX2 hown hK hP 0 rfl rfl 5 (by decide) fl27 (fun _ h9 => h9) rfl dX2_add_30 ?_
  refine lv_iload_n hx hb dX2_add_33 rfl (lv_at hl 2 rfl) ?_
  refine va_iast hx hb hK hP hD hS 2 0 rfl rfl hi_3 dX2_add_34 (fun H locs hP hD hS => ?_)
  have hP : va_P E.1 vwCl [(h0, .inr (2, [.ref g1, .ref g2, .ref g3, .ref g4, .ref g5, .int (nI on), .ref g6, .ref g7, .ref g8])), (g1, .inl (E.2.1 0, 7, .inl f_4)), (g2, .inl (E.2.1 0, 7, .inl (upd d2 (nI on).toNatClampNeg to_))), (g3, .inl (E.2.1 0, 7, .inl d3)), (g4, .inl (E.2.1 0, 7, .inl d4)), (g5, .inl (E.2.1 0, 7, .inl d5))] H := hP
  have hD : va_D A [(h0, .inr (2, [.ref g1, .ref g2, .ref g3, .ref g4, .ref g5, .int (nI on), .ref g6, .ref g7, .ref g8])), (g1, .inl (E.2.1 0, 7, .inl f_4)), (g2, .inl (E.2.1 0, 7, .inl (upd d2 (nI on).toNatClampNeg to_))), (g3, .inl (E.2.1 0, 7, .inl d3)), (g4, .inl (E.2.1 0, 7, .inl d4)), (g5, .inl (E.2.1 0, 7, .inl d5))] := hD
  obtain ⟨f_5, ef_5⟩ : ∃ g : Nat → Int32, g = upd d2 (nI on).toNatClampNeg to_ := ⟨_, rfl⟩
  rw [← ef_5] at hP hD
  refine lv_aload_n hx hb dX2_add_35 rfl (lv_at hl 0 rfl) ?_
  refine va_get (D := E.1) (ci := 2) (v := .ref g3) (C := RX2) (T := TX2) (N := 9) hx hb hts inX2 hown hK hP 0 rfl rfl 2 (by decide) fl18 (fun _ h9 => h9) rfl dX2_add_36 ?_
  refine lv_aload_n hx hb dX2_add_39 rfl (lv_at hl 0 rfl) ?_
  refine va_get (D := E.1) (ci := 2) (v := .int (nI on)) (C := RX2) (T := TX2) (N := 9) hx hb hts inX2 hown hK hP 0 rfl rfl 5 (by decide) fl27 (fun _ h9 => h9) rfl dX2_add_40 ?_
  refine lv_iload_n hx hb dX2_add_43 rfl (lv_at hl 3 rfl) ?_
  refine va_iast hx hb hK hP hD hS 3 0 rfl rfl hi_3 dX2_add_44 (fun H locs hP hD hS => ?_)
  have hP : va_P E.1 vwCl [(h0, .inr (2, [.ref g1, .ref g2, .ref g3, .ref g4, .ref g5, .int (nI on), .ref g6, .ref g7, .ref g8])), (g1, .inl (E.2.1 0, 7, .inl f_4)), (g2, .inl (E.2.1 0, 7, .inl f_5)), (g3, .inl (E.2.1 0, 7, .inl (upd d3 (nI on).toNatClampNeg le))), (g4, .inl (E.2.1 0, 7, .inl d4)), (g5, .inl (E.2.1 0, 7, .inl d5))] H := hP
  have hD : va_D A [(h0, .inr (2, [.ref g1, .ref g2, .ref g3, .ref g4, .ref g5, .int (nI on), .ref g6, .ref g7, .ref g8])), (g1, .inl (E.2.1 0, 7, .inl f_4)), (g2, .inl (E.2.1 0, 7, .inl f_5)), (g3, .inl (E.2.1 0, 7, .inl (upd d3 (nI on).toNatClampNeg le))), (g4, .inl (E.2.1 0, 7, .inl d4)), (g5, .inl (E.2.1 0, 7, .inl d5))] := hD
  obtain ⟨f_6, ef_6⟩ : ∃ g : Nat → Int32, g = upd d3 (nI on).toNatClampNeg le := ⟨_, rfl⟩
  rw [← ef_6] at hP hD
  refine lv_aload_n hx hb dX2_add_45 rfl (lv_at hl 0 rfl) ?_
  refine va_get (D := E.1) (ci := 2) (v := .ref g4) (C := RX2) (T := TX2) (N := 9) hx hb hts inX2 hown hK hP 0 rfl rfl 3 (by decide) fl21 (fun _ h9 => h9) rfl dX2_add_46 ?_
  refine lv_aload_n hx hb dX2_add_49 rfl (lv_at hl 0 rfl) ?_
  refine va_get (D := E.1) (ci := 2) (v := .int (nI on)) (C := RX2) (T := TX2) (N := 9) hx hb hts inX2 hown hK hP 0 rfl rfl 5 (by decide) fl27 (fun _ h9 => h9) rfl dX2_add_50 ?_
  refine lv_iload hx hb dX2_add_53 (lv_at hl 4 rfl) ?_
  refine va_iast hx hb hK hP hD hS 4 0 rfl rfl hi_3 dX2_add_55 (fun H locs hP hD hS => ?_)
  have hP : va_P E.1 vwCl [(h0, .inr (2, [.ref g1, .ref g2, .ref g3, .ref g4, .ref g5, .int (nI on), .ref g6, .ref g7, .ref g8])), (g1, .inl (E.2.1 0, 7, .inl f_4)), (g2, .inl (E.2.1 0, 7, .inl f_5)), (g3, .inl (E.2.1 0, 7, .inl f_6)), (g4, .inl (E.2.1 0, 7, .inl (upd d4 (nI on).toNatClampNeg fi))), (g5, .inl (E.2.1 0, 7, .inl d5))] H := hP
  have hD : va_D A [(h0, .inr (2, [.ref g1, .ref g2, .ref g3, .ref g4, .ref g5, .int (nI on), .ref g6, .ref g7, .ref g8])), (g1, .inl (E.2.1 0, 7, .inl f_4)), (g2, .inl (E.2.1 0, 7, .inl f_5)), (g3, .inl (E.2.1 0, 7, .inl f_6)), (g4, .inl (E.2.1 0, 7, .inl (upd d4 (nI on).toNatClampNeg fi))), (g5, .inl (E.2.1 0, 7, .inl d5))] := hD
  obtain ⟨f_7, ef_7⟩ : ∃ g : Nat → Int32, g = upd d4 (nI on).toNatClampNeg fi := ⟨_, rfl⟩
  rw [← ef_7] at hP hD
  refine lv_aload_n hx hb dX2_add_56 rfl (lv_at hl 0 rfl) ?_
  refine va_get (D := E.1) (ci := 2) (v := .ref g5) (C := RX2) (T := TX2) (N := 9) hx hb hts inX2 hown hK hP 0 rfl rfl 4 (by decide) fl24 (fun _ h9 => h9) rfl dX2_add_57 ?_
  refine lv_aload_n hx hb dX2_add_60 rfl (lv_at hl 0 rfl) ?_
  refine va_get (D := E.1) (ci := 2) (v := .int (nI on)) (C := RX2) (T := TX2) (N := 9) hx hb hts inX2 hown hK hP 0 rfl rfl 5 (by decide) fl27 (fun _ h9 => h9) rfl dX2_add_61 ?_
  refine lv_iload hx hb dX2_add_64 (lv_at hl 5 rfl) ?_
  refine va_iast hx hb hK hP hD hS 5 0 rfl rfl hi_3 dX2_add_66 (fun H locs hP hD hS => ?_)
  have hP : va_P E.1 vwCl [(h0, .inr (2, [.ref g1, .ref g2, .ref g3, .ref g4, .ref g5, .int (nI on), .ref g6, .ref g7, .ref g8])), (g1, .inl (E.2.1 0, 7, .inl f_4)), (g2, .inl (E.2.1 0, 7, .inl f_5)), (g3, .inl (E.2.1 0, 7, .inl f_6)), (g4, .inl (E.2.1 0, 7, .inl f_7)), (g5, .inl (E.2.1 0, 7, .inl (upd d5 (nI on).toNatClampNeg la)))] H := hP
  have hD : va_D A [(h0, .inr (2, [.ref g1, .ref g2, .ref g3, .ref g4, .ref g5, .int (nI on), .ref g6, .ref g7, .ref g8])), (g1, .inl (E.2.1 0, 7, .inl f_4)), (g2, .inl (E.2.1 0, 7, .inl f_5)), (g3, .inl (E.2.1 0, 7, .inl f_6)), (g4, .inl (E.2.1 0, 7, .inl f_7)), (g5, .inl (E.2.1 0, 7, .inl (upd d5 (nI on).toNatClampNeg la)))] := hD
  obtain ⟨f_8, ef_8⟩ : ∃ g : Nat → Int32, g = upd d5 (nI on).toNatClampNeg la := ⟨_, rfl⟩
  rw [← ef_8] at hP hD
  refine lv_aload_n hx hb dX2_add_67 rfl (lv_at hl 0 rfl) ?_
  refine lv_dup hx hb dX2_add_68 rfl ?_
  refine va_get (D := E.1) (ci := 2) (v := .int (nI on)) (C := RX2) (T := TX2) (N := 9) hx hb hts inX2 hown hK hP 0 rfl rfl 5 (by decide) fl27 (fun _ h9 => h9) rfl dX2_add_69 ?_
  refine lv_iconst (v := 1) hx hb dX2_add_72 (by decide) ?_
  refine lv_iadd hx hb dX2_add_73 ?_
  refine lv_topi (fun x_9 ex_9 => ?_)
  obtain rfl : x_9 = nI (on + 1) := ex_9.trans (nI_1 _)
  refine va_put (D := E.1) (ci := 2) (v := .int (nI (on + 1))) (ty := .int) (C := RX2) (T := TX2) (N := 9) hx hb hts inX2 tyX2 tyX2_ok nmX2 hown hK hP hD hS 0 rfl rfl 5 (by decide) fl27 (fun _ h9 => h9) rfl (by decide +kernel) rfl rfl (Nat.le_of_ble_eq_true rfl) dX2_add_74 (fun H locs hP hD hS => ?_)
  have hP : va_P E.1 vwCl [(h0, .inr (2, [.ref g1, .ref g2, .ref g3, .ref g4, .ref g5, .int (nI (on + 1)), .ref g6, .ref g7, .ref g8])), (g1, .inl (E.2.1 0, 7, .inl f_4)), (g2, .inl (E.2.1 0, 7, .inl f_5)), (g3, .inl (E.2.1 0, 7, .inl f_6)), (g4, .inl (E.2.1 0, 7, .inl f_7)), (g5, .inl (E.2.1 0, 7, .inl f_8))] H := hP
  have hD : va_D A [(h0, .inr (2, [.ref g1, .ref g2, .ref g3, .ref g4, .ref g5, .int (nI (on + 1)), .ref g6, .ref g7, .ref g8])), (g1, .inl (E.2.1 0, 7, .inl f_4)), (g2, .inl (E.2.1 0, 7, .inl f_5)), (g3, .inl (E.2.1 0, 7, .inl f_6)), (g4, .inl (E.2.1 0, 7, .inl f_7)), (g5, .inl (E.2.1 0, 7, .inl f_8))] := hD
  refine lv_aload_n hx hb dX2_add_77 rfl (lv_at hl 0 rfl) ?_
  refine va_get (D := E.1) (ci := 2) (v := .int (nI (on + 1))) (C := RX2) (T := TX2) (N := 9) hx hb hts inX2 hown hK hP 0 rfl rfl 5 (by decide) fl27 (fun _ h9 => h9) rfl dX2_add_78 ?_
  refine lv_iconst (v := 1) hx hb dX2_add_81 (by decide) ?_
  refine lv_isub hx hb dX2_add_82 ?_
  refine lv_topi (fun x_10 ex_10 => ?_)
  have hP9 := hP.sub (ws' := [(h0, .inr (2, [.ref g1, .ref g2, .ref g3, .ref g4, .ref g5, .int (nI (on + 1)), .ref g6, .ref g7, .ref g8])), (g1, .inl (E.2.1 0, 7, .inl f_4)), (g2, .inl (E.2.1 0, 7, .inl f_5)), (g3, .inl (E.2.1 0, 7, .inl f_6)), (g4, .inl (E.2.1 0, 7, .inl f_7)), (g5, .inl (E.2.1 0, 7, .inl f_8))]) [0, 1, 2, 3, 4, 5] rfl
  have hD9 := hD.sub (ws' := [(h0, .inr (2, [.ref g1, .ref g2, .ref g3, .ref g4, .ref g5, .int (nI (on + 1)), .ref g6, .ref g7, .ref g8])), (g1, .inl (E.2.1 0, 7, .inl f_4)), (g2, .inl (E.2.1 0, 7, .inl f_5)), (g3, .inl (E.2.1 0, 7, .inl f_6)), (g4, .inl (E.2.1 0, 7, .inl f_7)), (g5, .inl (E.2.1 0, 7, .inl f_8))]) [0, 1, 2, 3, 4, 5] (by decide) rfl
  exact W.iret (v := x_10) hx hb hr (fun t ht hW => ⟨⟨x_10, (f_4, f_5, f_6, f_7, f_8), rfl, (by rw [ex_10]; exact nI_pred on), (by intro k hk; rw [ef_4, nI_clamp (by omega)]; exact add_fact hd1 hfr k hk), by rw [ht]; exact hP9, hD9⟩, hS.F ht⟩) hS.2.2 dX2_add_83
