set_option maxHeartbeats 4000000 in
set_option maxRecDepth 100000 in
theorem lp_m_plan {p : Program} {l : Launch} {e : Env} {R : Room} {s : State} {m : MethodId} {args : Array Value} {below : List Frame} {meth : Method} {c : Code} {cells slots : Nat} {Q : State → Prop} {A : Nat → Prop} (E : vE) (h0 : Nat) (qf : Nat) (fs : List Value) (wr : va_W) (hx : p.tables.exec = Jvm.exec) (hb : c.code = cX12_plan) (hml : c.maxLocals = 2) (hown : s.vm.findClass RX12 = some m.cls) (hts : ∀ w ∈ wsX12_plan, w.before args s = true) (hkn : kn E s) (hst : st A s s.heap) (hA : ∀ q : Nat, s.heap.size ≤ q → A q) (hfs : fs[51]? = some (.ref qf)) (kk : ∀ (f : Nat → Int32) (H : Heap) (locs : List Loc) (ls : Array Slot), (∀ k, k < 512 → f k = if k % 128 = 0 then 0 else -1) → va_P E.1 vwCl ((h0, .inr (12, fs)) :: (qf, .inl (E.2 0, 512, .inl f)) :: wr) H → va_D A ((h0, .inr (12, fs)) :: (qf, .inl (E.2 0, 512, .inl f)) :: wr) → va_S A s.heap H locs → lv_has ls 2 [(0, .ref h0)] → W p l e R s m args below meth c H locs cells slots Q (F0 m 34 ls [])) : ∀ (n0 : Nat) (i : Nat) (f : Nat → Int32) (H : Heap) (locs : List Loc) (ls : Array Slot), 512 - i < n0 → (i ≤ 512) → (∀ k, k < i → f k = if k % 128 = 0 then 0 else -1) → va_P E.1 vwCl ((h0, .inr (12, fs)) :: (qf, .inl (E.2 0, 512, .inl f)) :: wr) H → va_D A ((h0, .inr (12, fs)) :: (qf, .inl (E.2 0, 512, .inl f)) :: wr) → va_S A s.heap H locs → lv_has ls 2 [(0, .ref h0), (1, .int (nI i))] → W p l e R s m args below meth c H locs cells slots Q (F0 m 2 ls []) := by
  have hK := hkn.1
  have hAO := hkn.2.2
  have fl121 := hts (.fieldLink RX12 121 "BoatsHomeModel" "crewPort" "[I") (by decide +kernel)
  have fl124 := hts (.fieldLink RX12 124 "BoatsHomeModel" "crewDay" "[I") (by decide +kernel)
  have fl130 := hts (.fieldLink RX12 130 "BoatsHomeModel" "least" "[I") (by decide +kernel)
  have fl133 := hts (.fieldLink RX12 133 "BoatsHomeModel" "order" "[I") (by decide +kernel)
  have fl142 := hts (.fieldLink RX12 142 "BoatsHomeModel" "sets" "[I") (by decide +kernel)
  have fl145 := hts (.fieldLink RX12 145 "BoatsHomeModel" "beginsOn" "[I") (by decide +kernel)
  have fl289 := hts (.fieldLink RX12 289 "BoatsHomeModel" "deliveries" "I") (by decide +kernel)
  have fl292 := hts (.fieldLink RX12 292 "BoatsHomeModel" "isPlanned" "Z") (by decide +kernel)
  have fl300 := hts (.fieldLink RX12 300 "BoatsHomeModel" "bestDone" "I") (by decide +kernel)
  have fl303 := hts (.fieldLink RX12 303 "BoatsHomeModel" "bestCost" "I") (by decide +kernel)
  have inX12 : ∀ w ∈ u_ws RX12 TX12 59, w ∈ wsX12_plan := by decide +kernel
  intro n0
  induction n0 with
  | zero =>
    intro i f H locs ls hn0
    exact absurd hn0 (Nat.not_lt_zero _)
  | succ n0 ih =>
    intro i f H locs ls hn0 hi hf hP hD hS hl
    refine lv_iload_n hx hb dX12_plan_2 rfl (lv_at hl 1 rfl) ?_
    refine lv_sipush (v := 512) hx hb dX12_plan_3 (by decide) ?_
    refine lv_icmp_ge (tgt := 34) hx hb dX12_plan_6 (by decide) (fun c1 => ?_) (fun c1 => ?_)
    · have hge : 512 ≤ i := by
        rcases Nat.lt_or_ge i 512 with q | q
        · exact absurd c1 (nI_ge (b := 512) q (by decide))
        · exact q
      exact kk f _ _ _ (fun k hk => hf k (by omega)) hP hD hS (lv_sub hl [0] rfl)
    · have hlt : i < 512 := by
        rcases Nat.lt_or_ge i 512 with q | q
        · exact q
        · exact absurd (show (512 : Int32) ≤ nI i from nI_le (a := 512) q (by omega)) c1
      refine lv_aload_n hx hb dX12_plan_9 rfl (lv_at hl 0 rfl) ?_
      refine va_get (D := E.1) (ci := 12) (v := .ref qf) (C := RX12) (T := TX12) (N := 59) hx hb hts inX12 hown hK hP 0 rfl rfl 51 (by decide) fl130 (fun _ h9 => h9) hfs dX12_plan_10 ?_
      refine lv_iload_n hx hb dX12_plan_13 rfl (lv_at hl 1 rfl) ?_
      refine lv_iload_n hx hb dX12_plan_14 rfl (lv_at hl 1 rfl) ?_
      refine lv_sipush (v := 128) hx hb dX12_plan_15 (by decide) ?_
      refine lv_irem hx hb dX12_plan_18 (by decide) ?_
      refine lv_topi (fun x2 ex2 => ?_)
      have hrm : x2 = nI (i % 128) := by rw [ex2]; exact pk_rem (d := 128) (by omega) (by decide) (by decide)
      refine lv_if_ne (tgt := 26) hx hb dX12_plan_19 (by decide) (fun c3 => ?_) (fun c3 => ?_)
      · refine lv_iconst (v := (-1)) hx hb dX12_plan_26 (by decide) ?_
        have hz : ¬ i % 128 = 0 := fun h => c3 (by rw [hrm, h]; rfl)
        refine va_iast hx hb hK hP hD hS 1 0 rfl rfl (vp_in_nI hlt (by decide)) dX12_plan_27 (fun H locs hP hD hS => ?_)
        have hP : va_P E.1 vwCl ((h0, .inr (12, fs)) :: (qf, .inl (E.2 0, 512, .inl (upd f (nI i).toNatClampNeg (-1)))) :: wr) H := hP
        have hD : va_D A ((h0, .inr (12, fs)) :: (qf, .inl (E.2 0, 512, .inl (upd f (nI i).toNatClampNeg (-1)))) :: wr) := hD
        obtain ⟨f4, ef4⟩ : ∃ g : Nat → Int32, g = upd f (nI i).toNatClampNeg (-1) := ⟨_, rfl⟩
        rw [← ef4] at hP hD
        refine lv_iinc (v := (nI (i + 1))) (lv' := [(1, .int (nI (i + 1))), (0, .ref h0)]) hx hb dX12_plan_28 hl (k := 1) rfl (show nI i + 1 = nI (i + 1) from nI_1 i) (by decide) rfl (fun ls hl => ?_)
        refine lv_goto (tgt := 2) hx hb dX12_plan_31 (by decide) ?_
        exact ih (i + 1) f4 _ _ _ (by omega) (by omega) (by
              intro k hk
              rw [ef4, nI_clamp (by omega)]
              by_cases hki : k = i
              · rw [hki, pk_us]; rw [if_neg hz]
              · rw [pk_un hki]; exact hf k (by omega)) hP hD hS (lv_sub hl [1, 0] rfl)
      · refine lv_iconst (v := 0) hx hb dX12_plan_22 (by decide) ?_
        refine lv_goto (tgt := 27) hx hb dX12_plan_23 (by decide) ?_
        have hz : i % 128 = 0 := by
          rw [hrm] at c3
          exact (nI_eq (a := i % 128) (b := 0) (by omega) (by decide)).mp c3
        refine va_iast hx hb hK hP hD hS 1 0 rfl rfl (vp_in_nI hlt (by decide)) dX12_plan_27 (fun H locs hP hD hS => ?_)
        have hP : va_P E.1 vwCl ((h0, .inr (12, fs)) :: (qf, .inl (E.2 0, 512, .inl (upd f (nI i).toNatClampNeg 0))) :: wr) H := hP
        have hD : va_D A ((h0, .inr (12, fs)) :: (qf, .inl (E.2 0, 512, .inl (upd f (nI i).toNatClampNeg 0))) :: wr) := hD
        obtain ⟨f5, ef5⟩ : ∃ g : Nat → Int32, g = upd f (nI i).toNatClampNeg 0 := ⟨_, rfl⟩
        rw [← ef5] at hP hD
        refine lv_iinc (v := (nI (i + 1))) (lv' := [(1, .int (nI (i + 1))), (0, .ref h0)]) hx hb dX12_plan_28 hl (k := 1) rfl (show nI i + 1 = nI (i + 1) from nI_1 i) (by decide) rfl (fun ls hl => ?_)
        refine lv_goto (tgt := 2) hx hb dX12_plan_31 (by decide) ?_
        exact ih (i + 1) f5 _ _ _ (by omega) (by omega) (by
              intro k hk
              rw [ef5, nI_clamp (by omega)]
              by_cases hki : k = i
              · rw [hki, pk_us]; rw [if_pos hz]
              · rw [pk_un hki]; exact hf k (by omega)) hP hD hS (lv_sub hl [1, 0] rfl)
set_option maxHeartbeats 4000000 in
set_option maxRecDepth 100000 in
theorem c_X12_give (l : Launch) (E : vE) (h0 : Nat) (q : Nat → Nat) (fL : Nat → Int32) (sz : Nat) (hL : ∀ k, k < 512 → fL k = if k % 128 = 0 then 0 else -1) : Met l yX12_give wsX12_give ({ frames := 0, cells := 0, slots := 0, locals := 0 }) (pcW E [.ref h0, .int 0] sz [(h0, .inr (12, (mO q).set 57 (.int (-1)))), (q 51, .inl (E.2 0, 512, .inl fL)), (q 55, .inl (E.2 0, 4, .inl (fun _ => 0)))]) (va_Qv (fun (_ : Unit) => True) (fun (_ : Unit) (t : State) => wB E (va_A [(h0, .inr (12, (mO q).set 57 (.int (-1)))), (q 51, .inl (E.2 0, 512, .inl fL)), (q 55, .inl (E.2 0, 4, .inl (fun _ => 0)))] sz) [(h0, .inr (12, mO q)), (q 51, .inl (E.2 0, 512, .inl fL)), (q 55, .inl (E.2 0, 4, .inl (fun _ => 0)))] t) (va_A [(h0, .inr (12, (mO q).set 57 (.int (-1)))), (q 51, .inl (E.2 0, 512, .inl fL)), (q 55, .inl (E.2 0, 4, .inl (fun _ => 0)))] sz)) 0 0 (va_A [(h0, .inr (12, (mO q).set 57 (.int (-1)))), (q 51, .inl (E.2 0, 512, .inl fL)), (q 55, .inl (E.2 0, 4, .inl (fun _ => 0)))] sz) := by
  refine Met.ofW (cc := cX12_give) (maxL := 6) (ret := none) (by decide) rfl ?_
  intro p e s m args below meth c s₁ B hml hv
  obtain ⟨rfl, hsz, hP, hkn, hD0, hst⟩ := hv
  have hx := B.exec
  have hb := B.bytes
  have hr := B.returns
  have hts := atoms_spec (ws := wsX12_give) B.pre
  have hown : s.vm.findClass RX12 = some m.cls := findClass_of_methodNamed B.named
  have hlocks := B.notSynchronized
  subst hsz
  have hD := hD0.self (sz := s.heap.size)
  have hK := hkn.1
  have hAO := hkn.2.2
  generalize hAe : va_A [(h0, .inr (12, (mO q).set 57 (.int (-1)))), (q 51, .inl (E.2 0, 512, .inl fL)), (q 55, .inl (E.2 0, 4, .inl (fun _ => 0)))] s.heap.size = A at hD hst ⊢
  have hA : ∀ q : Nat, s.heap.size ≤ q → A q := fun q h => by rw [← hAe]; exact Or.inr h
  have hS : va_S A s.heap s.heap [] := va_S.rf
  have hP : va_P E.1 vwCl [(h0, .inr (12, (mO q).set 57 (.int (-1)))), (q 51, .inl (E.2 0, 512, .inl fL)), (q 55, .inl (E.2 0, 4, .inl (fun _ => 0)))] s.heap := hP
  have hl := lv_entry ([.ref h0, .int 0]) (n := 6) (Nat.le_of_ble_eq_true rfl)
  rw [lg_entry_eq]
  generalize (lg_sl ([.ref h0, .int 0]) ++ List.replicate (6 - (lg_sl ([.ref h0, .int 0])).length) Slot.unset).toArray = ls at hl ⊢
  have hl : lv_has ls 6 [(0, .ref h0), (1, .int 0)] := hl
  have fl130 := hts (.fieldLink RX12 130 "BoatsHomeModel" "least" "[I") (by decide +kernel)
  have fl136 := hts (.fieldLink RX12 136 "BoatsHomeModel" "given" "[I") (by decide +kernel)
  have fl139 := hts (.fieldLink RX12 139 "BoatsHomeModel" "bestGiven" "[I") (by decide +kernel)
  have fl142 := hts (.fieldLink RX12 142 "BoatsHomeModel" "sets" "[I") (by decide +kernel)
  have fl289 := hts (.fieldLink RX12 289 "BoatsHomeModel" "deliveries" "I") (by decide +kernel)
  have fl300 := hts (.fieldLink RX12 300 "BoatsHomeModel" "bestDone" "I") (by decide +kernel)
  have fl303 := hts (.fieldLink RX12 303 "BoatsHomeModel" "bestCost" "I") (by decide +kernel)
  have inX12 : ∀ w ∈ u_ws RX12 TX12 59, w ∈ wsX12_give := by decide +kernel
  refine lv_iload_n hx hb dX12_give_0 rfl (lv_at hl 1 rfl) ?_
  refine lv_aload_n hx hb dX12_give_1 rfl (lv_at hl 0 rfl) ?_
  refine va_get (D := E.1) (ci := 12) (v := .int 0) (C := RX12) (T := TX12) (N := 59) hx hb hts inX12 hown hK hP 0 rfl rfl 41 (by decide) fl289 (fun _ h9 => h9) rfl dX12_give_2 ?_
  refine lv_icmp_ne (tgt := 170) hx hb dX12_give_5 (by decide) (fun c9 => absurd c9 (by decide)) (fun _ => ?_)
  refine lv_iconst (v := 0) hx hb dX12_give_8 (by decide) ?_
  refine lv_istore_n (lv' := [(2, .int 0), (0, .ref h0), (1, .int 0)]) hx hb dX12_give_9 rfl hl (by decide) rfl (fun ls hl => ?_)
  refine lv_iconst (v := 0) hx hb dX12_give_10 (by decide) ?_
  refine lv_istore_n (lv' := [(3, .int 0), (2, .int 0), (0, .ref h0), (1, .int 0)]) hx hb dX12_give_11 rfl hl (by decide) rfl (fun ls hl => ?_)
  refine lv_iconst (v := 0) hx hb dX12_give_12 (by decide) ?_
  refine lv_istore (lv' := [(4, .int 0), (3, .int 0), (2, .int 0), (0, .ref h0), (1, .int 0)]) hx hb dX12_give_13 hl (by decide) rfl (fun ls hl => ?_)
  refine lv_iload hx hb dX12_give_15 (lv_at hl 0 rfl) ?_
  refine lv_iconst (v := 4) hx hb dX12_give_17 (by decide) ?_
  refine lv_icmp_ge (tgt := 102) hx hb dX12_give_18 (by decide) (fun c9 => absurd c9 (by decide)) (fun _ => ?_)
  refine lv_aload_n hx hb dX12_give_21 rfl (lv_at hl 3 rfl) ?_
  refine va_get (D := E.1) (ci := 12) (v := .ref (q 51)) (C := RX12) (T := TX12) (N := 59) hx hb hts inX12 hown hK hP 0 rfl rfl 51 (by decide) fl130 (fun _ h9 => h9) rfl dX12_give_22 ?_
  refine lv_sipush (v := 128) hx hb dX12_give_25 (by decide) ?_
  refine lv_iload hx hb dX12_give_28 (lv_at hl 0 rfl) ?_
  refine lv_imul hx hb dX12_give_30 ?_
  refine lv_topi (fun x1 ex1 => ?_)
  obtain rfl : x1 = 0 := ex1.trans (by decide +kernel)
  refine lv_aload_n hx hb dX12_give_31 rfl (lv_at hl 3 rfl) ?_
  refine va_get (D := E.1) (ci := 12) (v := .ref (q 55)) (C := RX12) (T := TX12) (N := 59) hx hb hts inX12 hown hK hP 0 rfl rfl 55 (by decide) fl142 (fun _ h9 => h9) rfl dX12_give_32 ?_
  refine lv_iload hx hb dX12_give_35 (lv_at hl 0 rfl) ?_
  refine va_iald hx hb hK hP 2 0 rfl rfl (show vp_in 0 4 from by unfold vp_in; decide) dX12_give_37 ?_
  refine lv_iadd hx hb dX12_give_38 ?_
  refine lv_topi (fun x2 ex2 => ?_)
  obtain rfl : x2 = 0 := ex2.trans (by decide +kernel)
  refine va_iald hx hb hK hP 1 0 rfl rfl (show vp_in 0 512 from by unfold vp_in; decide) dX12_give_39 ?_
  refine lv_topi (fun x3 ex3 => ?_)
  obtain rfl : x3 = 0 := ex3.trans ((hL 0 (by decide)).trans (by decide))
  refine lv_iconst (v := (-1)) hx hb dX12_give_40 (by decide) ?_
  refine lv_icmp_ne (tgt := 45) hx hb dX12_give_41 (by decide) (fun _ => ?_) (fun c9 => absurd c9 (by decide))
  refine lv_iload_n hx hb dX12_give_45 rfl (lv_at hl 1 rfl) ?_
  refine lv_aload_n hx hb dX12_give_46 rfl (lv_at hl 3 rfl) ?_
  refine va_get (D := E.1) (ci := 12) (v := .ref (q 51)) (C := RX12) (T := TX12) (N := 59) hx hb hts inX12 hown hK hP 0 rfl rfl 51 (by decide) fl130 (fun _ h9 => h9) rfl dX12_give_47 ?_
  refine lv_sipush (v := 128) hx hb dX12_give_50 (by decide) ?_
  refine lv_iload hx hb dX12_give_53 (lv_at hl 0 rfl) ?_
  refine lv_imul hx hb dX12_give_55 ?_
  refine lv_topi (fun x4 ex4 => ?_)
  obtain rfl : x4 = 0 := ex4.trans (by decide +kernel)
  refine lv_aload_n hx hb dX12_give_56 rfl (lv_at hl 3 rfl) ?_
  refine va_get (D := E.1) (ci := 12) (v := .ref (q 55)) (C := RX12) (T := TX12) (N := 59) hx hb hts inX12 hown hK hP 0 rfl rfl 55 (by decide) fl142 (fun _ h9 => h9) rfl dX12_give_57 ?_
  refine lv_iload hx hb dX12_give_60 (lv_at hl 0 rfl) ?_
  refine va_iald hx hb hK hP 2 0 rfl rfl (show vp_in 0 4 from by unfold vp_in; decide) dX12_give_62 ?_
  refine lv_iadd hx hb dX12_give_63 ?_
  refine lv_topi (fun x5 ex5 => ?_)
  obtain rfl : x5 = 0 := ex5.trans (by decide +kernel)
  refine va_iald hx hb hK hP 1 0 rfl rfl (show vp_in 0 512 from by unfold vp_in; decide) dX12_give_64 ?_
  refine lv_topi (fun x6 ex6 => ?_)
  obtain rfl : x6 = 0 := ex6.trans ((hL 0 (by decide)).trans (by decide))
  refine lv_iadd hx hb dX12_give_65 ?_
  refine lv_topi (fun x7 ex7 => ?_)
  obtain rfl : x7 = 0 := ex7.trans (by decide +kernel)
  refine lv_istore_n (lv' := [(3, .int 0), (4, .int 0), (2, .int 0), (0, .ref h0), (1, .int 0)]) hx hb dX12_give_66 rfl hl (by decide) rfl (fun ls hl => ?_)
  refine lv_aload_n hx hb dX12_give_67 rfl (lv_at hl 3 rfl) ?_
  refine va_get (D := E.1) (ci := 12) (v := .ref (q 55)) (C := RX12) (T := TX12) (N := 59) hx hb hts inX12 hown hK hP 0 rfl rfl 55 (by decide) fl142 (fun _ h9 => h9) rfl dX12_give_68 ?_
  refine lv_iload hx hb dX12_give_71 (lv_at hl 1 rfl) ?_
  refine va_iald hx hb hK hP 2 0 rfl rfl (show vp_in 0 4 from by unfold vp_in; decide) dX12_give_73 ?_
  refine lv_istore (lv' := [(5, .int 0), (3, .int 0), (4, .int 0), (2, .int 0), (0, .ref h0), (1, .int 0)]) hx hb dX12_give_74 hl (by decide) rfl (fun ls hl => ?_)
  refine lv_iload hx hb dX12_give_76 (lv_at hl 0 rfl) ?_
  refine lv_if_eq (tgt := 96) hx hb dX12_give_78 (by decide) (fun _ => ?_) (fun c9 => absurd c9 (by decide))
  refine lv_iinc (v := 1) (lv' := [(4, .int 1), (5, .int 0), (3, .int 0), (2, .int 0), (0, .ref h0), (1, .int 0)]) hx hb dX12_give_96 hl (k := 2) rfl (by decide) (by decide) rfl (fun ls hl => ?_)
  refine lv_goto (tgt := 15) hx hb dX12_give_99 (by decide) ?_
  refine lv_iload hx hb dX12_give_15 (lv_at hl 0 rfl) ?_
  refine lv_iconst (v := 4) hx hb dX12_give_17 (by decide) ?_
  refine lv_icmp_ge (tgt := 102) hx hb dX12_give_18 (by decide) (fun c9 => absurd c9 (by decide)) (fun _ => ?_)
  refine lv_aload_n hx hb dX12_give_21 rfl (lv_at hl 4 rfl) ?_
  refine va_get (D := E.1) (ci := 12) (v := .ref (q 51)) (C := RX12) (T := TX12) (N := 59) hx hb hts inX12 hown hK hP 0 rfl rfl 51 (by decide) fl130 (fun _ h9 => h9) rfl dX12_give_22 ?_
  refine lv_sipush (v := 128) hx hb dX12_give_25 (by decide) ?_
  refine lv_iload hx hb dX12_give_28 (lv_at hl 0 rfl) ?_
  refine lv_imul hx hb dX12_give_30 ?_
  refine lv_topi (fun x8 ex8 => ?_)
  obtain rfl : x8 = 128 := ex8.trans (by decide +kernel)
  refine lv_aload_n hx hb dX12_give_31 rfl (lv_at hl 4 rfl) ?_
  refine va_get (D := E.1) (ci := 12) (v := .ref (q 55)) (C := RX12) (T := TX12) (N := 59) hx hb hts inX12 hown hK hP 0 rfl rfl 55 (by decide) fl142 (fun _ h9 => h9) rfl dX12_give_32 ?_
  refine lv_iload hx hb dX12_give_35 (lv_at hl 0 rfl) ?_
  refine va_iald hx hb hK hP 2 0 rfl rfl (show vp_in 1 4 from by unfold vp_in; decide) dX12_give_37 ?_
  refine lv_iadd hx hb dX12_give_38 ?_
  refine lv_topi (fun x9 ex9 => ?_)
  obtain rfl : x9 = 128 := ex9.trans (by decide +kernel)
  refine va_iald hx hb hK hP 1 0 rfl rfl (show vp_in 128 512 from by unfold vp_in; decide) dX12_give_39 ?_
  refine lv_topi (fun x10 ex10 => ?_)
  obtain rfl : x10 = 0 := ex10.trans ((hL 128 (by decide)).trans (by decide))
  refine lv_iconst (v := (-1)) hx hb dX12_give_40 (by decide) ?_
  refine lv_icmp_ne (tgt := 45) hx hb dX12_give_41 (by decide) (fun _ => ?_) (fun c9 => absurd c9 (by decide))
  refine lv_iload_n hx hb dX12_give_45 rfl (lv_at hl 2 rfl) ?_
  refine lv_aload_n hx hb dX12_give_46 rfl (lv_at hl 4 rfl) ?_
  refine va_get (D := E.1) (ci := 12) (v := .ref (q 51)) (C := RX12) (T := TX12) (N := 59) hx hb hts inX12 hown hK hP 0 rfl rfl 51 (by decide) fl130 (fun _ h9 => h9) rfl dX12_give_47 ?_
  refine lv_sipush (v := 128) hx hb dX12_give_50 (by decide) ?_
  refine lv_iload hx hb dX12_give_53 (lv_at hl 0 rfl) ?_
  refine lv_imul hx hb dX12_give_55 ?_
  refine lv_topi (fun x11 ex11 => ?_)
  obtain rfl : x11 = 128 := ex11.trans (by decide +kernel)
  refine lv_aload_n hx hb dX12_give_56 rfl (lv_at hl 4 rfl) ?_
  refine va_get (D := E.1) (ci := 12) (v := .ref (q 55)) (C := RX12) (T := TX12) (N := 59) hx hb hts inX12 hown hK hP 0 rfl rfl 55 (by decide) fl142 (fun _ h9 => h9) rfl dX12_give_57 ?_
  refine lv_iload hx hb dX12_give_60 (lv_at hl 0 rfl) ?_
  refine va_iald hx hb hK hP 2 0 rfl rfl (show vp_in 1 4 from by unfold vp_in; decide) dX12_give_62 ?_
  refine lv_iadd hx hb dX12_give_63 ?_
  refine lv_topi (fun x12 ex12 => ?_)
  obtain rfl : x12 = 128 := ex12.trans (by decide +kernel)
  refine va_iald hx hb hK hP 1 0 rfl rfl (show vp_in 128 512 from by unfold vp_in; decide) dX12_give_64 ?_
  refine lv_topi (fun x13 ex13 => ?_)
  obtain rfl : x13 = 0 := ex13.trans ((hL 128 (by decide)).trans (by decide))
  refine lv_iadd hx hb dX12_give_65 ?_
  refine lv_topi (fun x14 ex14 => ?_)
  obtain rfl : x14 = 0 := ex14.trans (by decide +kernel)
  refine lv_istore_n (lv' := [(3, .int 0), (4, .int 1), (5, .int 0), (2, .int 0), (0, .ref h0), (1, .int 0)]) hx hb dX12_give_66 rfl hl (by decide) rfl (fun ls hl => ?_)
  refine lv_aload_n hx hb dX12_give_67 rfl (lv_at hl 4 rfl) ?_
  refine va_get (D := E.1) (ci := 12) (v := .ref (q 55)) (C := RX12) (T := TX12) (N := 59) hx hb hts inX12 hown hK hP 0 rfl rfl 55 (by decide) fl142 (fun _ h9 => h9) rfl dX12_give_68 ?_
  refine lv_iload hx hb dX12_give_71 (lv_at hl 1 rfl) ?_
  refine va_iald hx hb hK hP 2 0 rfl rfl (show vp_in 1 4 from by unfold vp_in; decide) dX12_give_73 ?_
  refine lv_istore (lv' := [(5, .int 0), (3, .int 0), (4, .int 1), (2, .int 0), (0, .ref h0), (1, .int 0)]) hx hb dX12_give_74 hl (by decide) rfl (fun ls hl => ?_)
  refine lv_iload hx hb dX12_give_76 (lv_at hl 0 rfl) ?_
  refine lv_if_eq (tgt := 96) hx hb dX12_give_78 (by decide) (fun _ => ?_) (fun c9 => absurd c9 (by decide))
  refine lv_iinc (v := 2) (lv' := [(4, .int 2), (5, .int 0), (3, .int 0), (2, .int 0), (0, .ref h0), (1, .int 0)]) hx hb dX12_give_96 hl (k := 2) rfl (by decide) (by decide) rfl (fun ls hl => ?_)
  refine lv_goto (tgt := 15) hx hb dX12_give_99 (by decide) ?_
  refine lv_iload hx hb dX12_give_15 (lv_at hl 0 rfl) ?_
  refine lv_iconst (v := 4) hx hb dX12_give_17 (by decide) ?_
  refine lv_icmp_ge (tgt := 102) hx hb dX12_give_18 (by decide) (fun c9 => absurd c9 (by decide)) (fun _ => ?_)
  refine lv_aload_n hx hb dX12_give_21 rfl (lv_at hl 4 rfl) ?_
  refine va_get (D := E.1) (ci := 12) (v := .ref (q 51)) (C := RX12) (T := TX12) (N := 59) hx hb hts inX12 hown hK hP 0 rfl rfl 51 (by decide) fl130 (fun _ h9 => h9) rfl dX12_give_22 ?_
  refine lv_sipush (v := 128) hx hb dX12_give_25 (by decide) ?_
  refine lv_iload hx hb dX12_give_28 (lv_at hl 0 rfl) ?_
  refine lv_imul hx hb dX12_give_30 ?_
  refine lv_topi (fun x15 ex15 => ?_)
  obtain rfl : x15 = 256 := ex15.trans (by decide +kernel)
  refine lv_aload_n hx hb dX12_give_31 rfl (lv_at hl 4 rfl) ?_
  refine va_get (D := E.1) (ci := 12) (v := .ref (q 55)) (C := RX12) (T := TX12) (N := 59) hx hb hts inX12 hown hK hP 0 rfl rfl 55 (by decide) fl142 (fun _ h9 => h9) rfl dX12_give_32 ?_
  refine lv_iload hx hb dX12_give_35 (lv_at hl 0 rfl) ?_
  refine va_iald hx hb hK hP 2 0 rfl rfl (show vp_in 2 4 from by unfold vp_in; decide) dX12_give_37 ?_
  refine lv_iadd hx hb dX12_give_38 ?_
  refine lv_topi (fun x16 ex16 => ?_)
  obtain rfl : x16 = 256 := ex16.trans (by decide +kernel)
  refine va_iald hx hb hK hP 1 0 rfl rfl (show vp_in 256 512 from by unfold vp_in; decide) dX12_give_39 ?_
  refine lv_topi (fun x17 ex17 => ?_)
  obtain rfl : x17 = 0 := ex17.trans ((hL 256 (by decide)).trans (by decide))
  refine lv_iconst (v := (-1)) hx hb dX12_give_40 (by decide) ?_
  refine lv_icmp_ne (tgt := 45) hx hb dX12_give_41 (by decide) (fun _ => ?_) (fun c9 => absurd c9 (by decide))
  refine lv_iload_n hx hb dX12_give_45 rfl (lv_at hl 2 rfl) ?_
  refine lv_aload_n hx hb dX12_give_46 rfl (lv_at hl 4 rfl) ?_
  refine va_get (D := E.1) (ci := 12) (v := .ref (q 51)) (C := RX12) (T := TX12) (N := 59) hx hb hts inX12 hown hK hP 0 rfl rfl 51 (by decide) fl130 (fun _ h9 => h9) rfl dX12_give_47 ?_
  refine lv_sipush (v := 128) hx hb dX12_give_50 (by decide) ?_
  refine lv_iload hx hb dX12_give_53 (lv_at hl 0 rfl) ?_
  refine lv_imul hx hb dX12_give_55 ?_
  refine lv_topi (fun x18 ex18 => ?_)
  obtain rfl : x18 = 256 := ex18.trans (by decide +kernel)
  refine lv_aload_n hx hb dX12_give_56 rfl (lv_at hl 4 rfl) ?_
  refine va_get (D := E.1) (ci := 12) (v := .ref (q 55)) (C := RX12) (T := TX12) (N := 59) hx hb hts inX12 hown hK hP 0 rfl rfl 55 (by decide) fl142 (fun _ h9 => h9) rfl dX12_give_57 ?_
  refine lv_iload hx hb dX12_give_60 (lv_at hl 0 rfl) ?_
  refine va_iald hx hb hK hP 2 0 rfl rfl (show vp_in 2 4 from by unfold vp_in; decide) dX12_give_62 ?_
  refine lv_iadd hx hb dX12_give_63 ?_
  refine lv_topi (fun x19 ex19 => ?_)
  obtain rfl : x19 = 256 := ex19.trans (by decide +kernel)
  refine va_iald hx hb hK hP 1 0 rfl rfl (show vp_in 256 512 from by unfold vp_in; decide) dX12_give_64 ?_
  refine lv_topi (fun x20 ex20 => ?_)
  obtain rfl : x20 = 0 := ex20.trans ((hL 256 (by decide)).trans (by decide))
  refine lv_iadd hx hb dX12_give_65 ?_
  refine lv_topi (fun x21 ex21 => ?_)
  obtain rfl : x21 = 0 := ex21.trans (by decide +kernel)
  refine lv_istore_n (lv' := [(3, .int 0), (4, .int 2), (5, .int 0), (2, .int 0), (0, .ref h0), (1, .int 0)]) hx hb dX12_give_66 rfl hl (by decide) rfl (fun ls hl => ?_)
  refine lv_aload_n hx hb dX12_give_67 rfl (lv_at hl 4 rfl) ?_
  refine va_get (D := E.1) (ci := 12) (v := .ref (q 55)) (C := RX12) (T := TX12) (N := 59) hx hb hts inX12 hown hK hP 0 rfl rfl 55 (by decide) fl142 (fun _ h9 => h9) rfl dX12_give_68 ?_
  refine lv_iload hx hb dX12_give_71 (lv_at hl 1 rfl) ?_
  refine va_iald hx hb hK hP 2 0 rfl rfl (show vp_in 2 4 from by unfold vp_in; decide) dX12_give_73 ?_
  refine lv_istore (lv' := [(5, .int 0), (3, .int 0), (4, .int 2), (2, .int 0), (0, .ref h0), (1, .int 0)]) hx hb dX12_give_74 hl (by decide) rfl (fun ls hl => ?_)
  refine lv_iload hx hb dX12_give_76 (lv_at hl 0 rfl) ?_
  refine lv_if_eq (tgt := 96) hx hb dX12_give_78 (by decide) (fun _ => ?_) (fun c9 => absurd c9 (by decide))
  refine lv_iinc (v := 3) (lv' := [(4, .int 3), (5, .int 0), (3, .int 0), (2, .int 0), (0, .ref h0), (1, .int 0)]) hx hb dX12_give_96 hl (k := 2) rfl (by decide) (by decide) rfl (fun ls hl => ?_)
  refine lv_goto (tgt := 15) hx hb dX12_give_99 (by decide) ?_
  refine lv_iload hx hb dX12_give_15 (lv_at hl 0 rfl) ?_
  refine lv_iconst (v := 4) hx hb dX12_give_17 (by decide) ?_
  refine lv_icmp_ge (tgt := 102) hx hb dX12_give_18 (by decide) (fun c9 => absurd c9 (by decide)) (fun _ => ?_)
  refine lv_aload_n hx hb dX12_give_21 rfl (lv_at hl 4 rfl) ?_
  refine va_get (D := E.1) (ci := 12) (v := .ref (q 51)) (C := RX12) (T := TX12) (N := 59) hx hb hts inX12 hown hK hP 0 rfl rfl 51 (by decide) fl130 (fun _ h9 => h9) rfl dX12_give_22 ?_
  refine lv_sipush (v := 128) hx hb dX12_give_25 (by decide) ?_
  refine lv_iload hx hb dX12_give_28 (lv_at hl 0 rfl) ?_
  refine lv_imul hx hb dX12_give_30 ?_
  refine lv_topi (fun x22 ex22 => ?_)
  obtain rfl : x22 = 384 := ex22.trans (by decide +kernel)
  refine lv_aload_n hx hb dX12_give_31 rfl (lv_at hl 4 rfl) ?_
  refine va_get (D := E.1) (ci := 12) (v := .ref (q 55)) (C := RX12) (T := TX12) (N := 59) hx hb hts inX12 hown hK hP 0 rfl rfl 55 (by decide) fl142 (fun _ h9 => h9) rfl dX12_give_32 ?_
  refine lv_iload hx hb dX12_give_35 (lv_at hl 0 rfl) ?_
  refine va_iald hx hb hK hP 2 0 rfl rfl (show vp_in 3 4 from by unfold vp_in; decide) dX12_give_37 ?_
  refine lv_iadd hx hb dX12_give_38 ?_
  refine lv_topi (fun x23 ex23 => ?_)
  obtain rfl : x23 = 384 := ex23.trans (by decide +kernel)
  refine va_iald hx hb hK hP 1 0 rfl rfl (show vp_in 384 512 from by unfold vp_in; decide) dX12_give_39 ?_
  refine lv_topi (fun x24 ex24 => ?_)
  obtain rfl : x24 = 0 := ex24.trans ((hL 384 (by decide)).trans (by decide))
  refine lv_iconst (v := (-1)) hx hb dX12_give_40 (by decide) ?_
  refine lv_icmp_ne (tgt := 45) hx hb dX12_give_41 (by decide) (fun _ => ?_) (fun c9 => absurd c9 (by decide))
  refine lv_iload_n hx hb dX12_give_45 rfl (lv_at hl 2 rfl) ?_
  refine lv_aload_n hx hb dX12_give_46 rfl (lv_at hl 4 rfl) ?_
  refine va_get (D := E.1) (ci := 12) (v := .ref (q 51)) (C := RX12) (T := TX12) (N := 59) hx hb hts inX12 hown hK hP 0 rfl rfl 51 (by decide) fl130 (fun _ h9 => h9) rfl dX12_give_47 ?_
  refine lv_sipush (v := 128) hx hb dX12_give_50 (by decide) ?_
  refine lv_iload hx hb dX12_give_53 (lv_at hl 0 rfl) ?_
  refine lv_imul hx hb dX12_give_55 ?_
  refine lv_topi (fun x25 ex25 => ?_)
  obtain rfl : x25 = 384 := ex25.trans (by decide +kernel)
  refine lv_aload_n hx hb dX12_give_56 rfl (lv_at hl 4 rfl) ?_
  refine va_get (D := E.1) (ci := 12) (v := .ref (q 55)) (C := RX12) (T := TX12) (N := 59) hx hb hts inX12 hown hK hP 0 rfl rfl 55 (by decide) fl142 (fun _ h9 => h9) rfl dX12_give_57 ?_
  refine lv_iload hx hb dX12_give_60 (lv_at hl 0 rfl) ?_
  refine va_iald hx hb hK hP 2 0 rfl rfl (show vp_in 3 4 from by unfold vp_in; decide) dX12_give_62 ?_
  refine lv_iadd hx hb dX12_give_63 ?_
  refine lv_topi (fun x26 ex26 => ?_)
  obtain rfl : x26 = 384 := ex26.trans (by decide +kernel)
  refine va_iald hx hb hK hP 1 0 rfl rfl (show vp_in 384 512 from by unfold vp_in; decide) dX12_give_64 ?_
  refine lv_topi (fun x27 ex27 => ?_)
  obtain rfl : x27 = 0 := ex27.trans ((hL 384 (by decide)).trans (by decide))
  refine lv_iadd hx hb dX12_give_65 ?_
  refine lv_topi (fun x28 ex28 => ?_)
  obtain rfl : x28 = 0 := ex28.trans (by decide +kernel)
  refine lv_istore_n (lv' := [(3, .int 0), (4, .int 3), (5, .int 0), (2, .int 0), (0, .ref h0), (1, .int 0)]) hx hb dX12_give_66 rfl hl (by decide) rfl (fun ls hl => ?_)
  refine lv_aload_n hx hb dX12_give_67 rfl (lv_at hl 4 rfl) ?_
  refine va_get (D := E.1) (ci := 12) (v := .ref (q 55)) (C := RX12) (T := TX12) (N := 59) hx hb hts inX12 hown hK hP 0 rfl rfl 55 (by decide) fl142 (fun _ h9 => h9) rfl dX12_give_68 ?_
  refine lv_iload hx hb dX12_give_71 (lv_at hl 1 rfl) ?_
  refine va_iald hx hb hK hP 2 0 rfl rfl (show vp_in 3 4 from by unfold vp_in; decide) dX12_give_73 ?_
  refine lv_istore (lv' := [(5, .int 0), (3, .int 0), (4, .int 3), (2, .int 0), (0, .ref h0), (1, .int 0)]) hx hb dX12_give_74 hl (by decide) rfl (fun ls hl => ?_)
  refine lv_iload hx hb dX12_give_76 (lv_at hl 0 rfl) ?_
  refine lv_if_eq (tgt := 96) hx hb dX12_give_78 (by decide) (fun _ => ?_) (fun c9 => absurd c9 (by decide))
  refine lv_iinc (v := 4) (lv' := [(4, .int 4), (5, .int 0), (3, .int 0), (2, .int 0), (0, .ref h0), (1, .int 0)]) hx hb dX12_give_96 hl (k := 2) rfl (by decide) (by decide) rfl (fun ls hl => ?_)
  refine lv_goto (tgt := 15) hx hb dX12_give_99 (by decide) ?_
  refine lv_iload hx hb dX12_give_15 (lv_at hl 0 rfl) ?_
  refine lv_iconst (v := 4) hx hb dX12_give_17 (by decide) ?_
  refine lv_icmp_ge (tgt := 102) hx hb dX12_give_18 (by decide) (fun _ => ?_) (fun c9 => absurd c9 (by decide))
  refine lv_iload_n hx hb dX12_give_102 rfl (lv_at hl 3 rfl) ?_
  refine lv_aload_n hx hb dX12_give_103 rfl (lv_at hl 4 rfl) ?_
  refine va_get (D := E.1) (ci := 12) (v := .int (-1)) (C := RX12) (T := TX12) (N := 59) hx hb hts inX12 hown hK hP 0 rfl rfl 57 (by decide) fl300 (fun _ h9 => h9) rfl dX12_give_104 ?_
  refine lv_icmp_lt (tgt := 126) hx hb dX12_give_107 (by decide) (fun c9 => absurd c9 (by decide)) (fun _ => ?_)
  refine lv_iload_n hx hb dX12_give_110 rfl (lv_at hl 3 rfl) ?_
  refine lv_aload_n hx hb dX12_give_111 rfl (lv_at hl 4 rfl) ?_
  refine va_get (D := E.1) (ci := 12) (v := .int (-1)) (C := RX12) (T := TX12) (N := 59) hx hb hts inX12 hown hK hP 0 rfl rfl 57 (by decide) fl300 (fun _ h9 => h9) rfl dX12_give_112 ?_
  refine lv_icmp_ne (tgt := 127) hx hb dX12_give_115 (by decide) (fun _ => ?_) (fun c9 => absurd c9 (by decide))
  refine lv_aload_n hx hb dX12_give_127 rfl (lv_at hl 4 rfl) ?_
  refine lv_iload_n hx hb dX12_give_128 rfl (lv_at hl 3 rfl) ?_
  refine va_put (D := E.1) (ci := 12) (v := .int 0) (ty := .int) (C := RX12) (T := TX12) (N := 59) hx hb hts inX12 tyX12 tyX12_ok nmX12 hown hK hP hD hS 0 rfl rfl 57 (by decide) fl300 (fun _ h9 => h9) rfl (by decide +kernel) rfl rfl (Nat.le_of_ble_eq_true rfl) dX12_give_129 (fun H locs hP hD hS => ?_)
  have hP : va_P E.1 vwCl [(h0, .inr (12, mO q)), (q 51, .inl (E.2 0, 512, .inl fL)), (q 55, .inl (E.2 0, 4, .inl (fun _ => 0)))] H := hP
  have hD : va_D A [(h0, .inr (12, mO q)), (q 51, .inl (E.2 0, 512, .inl fL)), (q 55, .inl (E.2 0, 4, .inl (fun _ => 0)))] := hD
  refine lv_aload_n hx hb dX12_give_132 rfl (lv_at hl 4 rfl) ?_
  refine lv_iload_n hx hb dX12_give_133 rfl (lv_at hl 2 rfl) ?_
  refine va_put (D := E.1) (ci := 12) (v := .int 0) (ty := .int) (C := RX12) (T := TX12) (N := 59) hx hb hts inX12 tyX12 tyX12_ok nmX12 hown hK hP hD hS 0 rfl rfl 58 (by decide) fl303 (fun _ h9 => h9) rfl (by decide +kernel) rfl rfl (Nat.le_of_ble_eq_true rfl) dX12_give_134 (fun H locs hP hD hS => ?_)
  have hP : va_P E.1 vwCl [(h0, .inr (12, mO q)), (q 51, .inl (E.2 0, 512, .inl fL)), (q 55, .inl (E.2 0, 4, .inl (fun _ => 0)))] H := hP
  have hD : va_D A [(h0, .inr (12, mO q)), (q 51, .inl (E.2 0, 512, .inl fL)), (q 55, .inl (E.2 0, 4, .inl (fun _ => 0)))] := hD
  refine lv_iconst (v := 0) hx hb dX12_give_137 (by decide) ?_
  refine lv_istore (lv' := [(4, .int 0), (5, .int 0), (3, .int 0), (2, .int 0), (0, .ref h0), (1, .int 0)]) hx hb dX12_give_138 hl (by decide) rfl (fun ls hl => ?_)
  refine lv_iload hx hb dX12_give_140 (lv_at hl 0 rfl) ?_
  refine lv_aload_n hx hb dX12_give_142 rfl (lv_at hl 4 rfl) ?_
  refine va_get (D := E.1) (ci := 12) (v := .int 0) (C := RX12) (T := TX12) (N := 59) hx hb hts inX12 hown hK hP 0 rfl rfl 41 (by decide) fl289 (fun _ h9 => h9) rfl dX12_give_143 ?_
  refine lv_icmp_ge (tgt := 169) hx hb dX12_give_146 (by decide) (fun _ => ?_) (fun c9 => absurd c9 (by decide))
  have hP9 := hP.sub (ws' := [(h0, .inr (12, mO q)), (q 51, .inl (E.2 0, 512, .inl fL)), (q 55, .inl (E.2 0, 4, .inl (fun _ => 0)))]) [0, 1, 2] rfl
  have hD9 := hD.sub (ws' := [(h0, .inr (12, mO q)), (q 51, .inl (E.2 0, 512, .inl fL)), (q 55, .inl (E.2 0, 4, .inl (fun _ => 0)))]) [0, 1, 2] (by decide) rfl
  exact W.vret hx hb hr (fun t ht hW => ⟨⟨(), rfl, trivial, by rw [ht]; exact hP9, hD9⟩, hS.F ht⟩) hS.2.2 dX12_give_169
set_option maxHeartbeats 4000000 in
set_option maxRecDepth 100000 in
theorem c_X12_goes0 (l : Launch) (E : vE) (h0 : Nat) (q : Nat → Nat) (fc : Nat → Int32) (sz : Nat) (hfc : ∀ k, k < 4 → fc k = -1) : Met l yX12_goes wsX12_goes ({ frames := 0, cells := 0, slots := 0, locals := 0 }) (pcW E [.ref h0, .int 0] sz [(h0, .inr (12, mO q)), (q 52, .inl (E.2 0, 512, .inl (fun _ => 0))), (q 47, .inl (E.2 0, 4, .inl fc)), (q 48, .inl (E.2 0, 4, .inl (fun _ => 0)))]) (va_Qv (fun (_ : Unit) => True) (fun (_ : Unit) (t : State) => wB E (va_A [(h0, .inr (12, mO q)), (q 52, .inl (E.2 0, 512, .inl (fun _ => 0))), (q 47, .inl (E.2 0, 4, .inl fc)), (q 48, .inl (E.2 0, 4, .inl (fun _ => 0)))] sz) [(h0, .inr (12, mO q)), (q 52, .inl (E.2 0, 512, .inl (fun _ => 0))), (q 47, .inl (E.2 0, 4, .inl fc)), (q 48, .inl (E.2 0, 4, .inl (fun _ => 0)))] t) (va_A [(h0, .inr (12, mO q)), (q 52, .inl (E.2 0, 512, .inl (fun _ => 0))), (q 47, .inl (E.2 0, 4, .inl fc)), (q 48, .inl (E.2 0, 4, .inl (fun _ => 0)))] sz)) 0 0 (va_A [(h0, .inr (12, mO q)), (q 52, .inl (E.2 0, 512, .inl (fun _ => 0))), (q 47, .inl (E.2 0, 4, .inl fc)), (q 48, .inl (E.2 0, 4, .inl (fun _ => 0)))] sz) := by
  refine Met.ofW (cc := cX12_goes) (maxL := 10) (ret := none) (by decide) rfl ?_
  intro p e s m args below meth c s₁ B hml hv
  obtain ⟨rfl, hsz, hP, hkn, hD0, hst⟩ := hv
  have hx := B.exec
  have hb := B.bytes
  have hr := B.returns
  have hts := atoms_spec (ws := wsX12_goes) B.pre
  have hown : s.vm.findClass RX12 = some m.cls := findClass_of_methodNamed B.named
  have hlocks := B.notSynchronized
  subst hsz
  have hD := hD0.self (sz := s.heap.size)
  have hK := hkn.1
  have hAO := hkn.2.2
  generalize hAe : va_A [(h0, .inr (12, mO q)), (q 52, .inl (E.2 0, 512, .inl (fun _ => 0))), (q 47, .inl (E.2 0, 4, .inl fc)), (q 48, .inl (E.2 0, 4, .inl (fun _ => 0)))] s.heap.size = A at hD hst ⊢
  have hA : ∀ q : Nat, s.heap.size ≤ q → A q := fun q h => by rw [← hAe]; exact Or.inr h
  have hS : va_S A s.heap s.heap [] := va_S.rf
  have hP : va_P E.1 vwCl [(h0, .inr (12, mO q)), (q 52, .inl (E.2 0, 512, .inl (fun _ => 0))), (q 47, .inl (E.2 0, 4, .inl fc)), (q 48, .inl (E.2 0, 4, .inl (fun _ => 0)))] s.heap := hP
  have hl := lv_entry ([.ref h0, .int 0]) (n := 10) (Nat.le_of_ble_eq_true rfl)
  rw [lg_entry_eq]
  generalize (lg_sl ([.ref h0, .int 0]) ++ List.replicate (10 - (lg_sl ([.ref h0, .int 0])).length) Slot.unset).toArray = ls at hl ⊢
  have hl : lv_has ls 10 [(0, .ref h0), (1, .int 0)] := hl
  have fl106 := hts (.fieldLink RX12 106 "BoatsHomeModel" "dFrom" "[I") (by decide +kernel)
  have fl109 := hts (.fieldLink RX12 109 "BoatsHomeModel" "dTo" "[I") (by decide +kernel)
  have fl112 := hts (.fieldLink RX12 112 "BoatsHomeModel" "dDays" "[I") (by decide +kernel)
  have fl115 := hts (.fieldLink RX12 115 "BoatsHomeModel" "dFirst" "[I") (by decide +kernel)
  have fl121 := hts (.fieldLink RX12 121 "BoatsHomeModel" "crewPort" "[I") (by decide +kernel)
  have fl124 := hts (.fieldLink RX12 124 "BoatsHomeModel" "crewDay" "[I") (by decide +kernel)
  have fl133 := hts (.fieldLink RX12 133 "BoatsHomeModel" "order" "[I") (by decide +kernel)
  have fl139 := hts (.fieldLink RX12 139 "BoatsHomeModel" "bestGiven" "[I") (by decide +kernel)
  have fl145 := hts (.fieldLink RX12 145 "BoatsHomeModel" "beginsOn" "[I") (by decide +kernel)
  have fl289 := hts (.fieldLink RX12 289 "BoatsHomeModel" "deliveries" "I") (by decide +kernel)
  have inX12 : ∀ w ∈ u_ws RX12 TX12 59, w ∈ wsX12_goes := by decide +kernel
  refine lv_iconst (v := 0) hx hb dX12_goes_0 (by decide) ?_
  refine lv_istore_n (lv' := [(2, .int 0), (0, .ref h0), (1, .int 0)]) hx hb dX12_goes_1 rfl hl (by decide) rfl (fun ls hl => ?_)
  refine lv_iconst (v := 0) hx hb dX12_goes_2 (by decide) ?_
  refine lv_istore_n (lv' := [(3, .int 0), (2, .int 0), (0, .ref h0), (1, .int 0)]) hx hb dX12_goes_3 rfl hl (by decide) rfl (fun ls hl => ?_)
  refine lv_iconst (v := 0) hx hb dX12_goes_4 (by decide) ?_
  refine lv_istore (lv' := [(4, .int 0), (3, .int 0), (2, .int 0), (0, .ref h0), (1, .int 0)]) hx hb dX12_goes_5 hl (by decide) rfl (fun ls hl => ?_)
  refine lv_iload hx hb dX12_goes_7 (lv_at hl 0 rfl) ?_
  refine lv_aload_n hx hb dX12_goes_9 rfl (lv_at hl 3 rfl) ?_
  refine va_get (D := E.1) (ci := 12) (v := .int 0) (C := RX12) (T := TX12) (N := 59) hx hb hts inX12 hown hK hP 0 rfl rfl 41 (by decide) fl289 (fun _ h9 => h9) rfl dX12_goes_10 ?_
  refine lv_icmp_ge (tgt := 46) hx hb dX12_goes_13 (by decide) (fun _ => ?_) (fun c9 => absurd c9 (by decide))
  refine lv_aload_n hx hb dX12_goes_46 rfl (lv_at hl 3 rfl) ?_
  refine va_get (D := E.1) (ci := 12) (v := .ref (q 52)) (C := RX12) (T := TX12) (N := 59) hx hb hts inX12 hown hK hP 0 rfl rfl 52 (by decide) fl133 (fun _ h9 => h9) rfl dX12_goes_47 ?_
  refine lv_sipush (v := 128) hx hb dX12_goes_50 (by decide) ?_
  refine lv_iload_n hx hb dX12_goes_53 rfl (lv_at hl 4 rfl) ?_
  refine lv_imul hx hb dX12_goes_54 ?_
  refine lv_topi (fun x1 ex1 => ?_)
  obtain rfl : x1 = 0 := ex1.trans (by decide +kernel)
  refine lv_iload_n hx hb dX12_goes_55 rfl (lv_at hl 2 rfl) ?_
  refine lv_iadd hx hb dX12_goes_56 ?_
  refine lv_topi (fun x2 ex2 => ?_)
  obtain rfl : x2 = 0 := ex2.trans (by decide +kernel)
  refine va_iald hx hb hK hP 1 0 rfl rfl (show vp_in 0 512 from by unfold vp_in; decide) dX12_goes_57 ?_
  refine lv_istore (lv' := [(4, .int 0), (3, .int 0), (2, .int 0), (0, .ref h0), (1, .int 0)]) hx hb dX12_goes_58 hl (by decide) rfl (fun ls hl => ?_)
  refine lv_aload_n hx hb dX12_goes_60 rfl (lv_at hl 3 rfl) ?_
  refine va_get (D := E.1) (ci := 12) (v := .ref (q 47)) (C := RX12) (T := TX12) (N := 59) hx hb hts inX12 hown hK hP 0 rfl rfl 47 (by decide) fl121 (fun _ h9 => h9) rfl dX12_goes_61 ?_
  refine lv_iload_n hx hb dX12_goes_64 rfl (lv_at hl 4 rfl) ?_
  refine va_iald hx hb hK hP 2 0 rfl rfl (show vp_in 0 4 from by unfold vp_in; decide) dX12_goes_65 ?_
  refine lv_topi (fun x3 ex3 => ?_)
  obtain rfl : x3 = -1 := ex3.trans (hfc 0 (by decide))
  refine lv_istore (lv' := [(5, .int (-1)), (4, .int 0), (3, .int 0), (2, .int 0), (0, .ref h0), (1, .int 0)]) hx hb dX12_goes_66 hl (by decide) rfl (fun ls hl => ?_)
  refine lv_aload_n hx hb dX12_goes_68 rfl (lv_at hl 4 rfl) ?_
  refine va_get (D := E.1) (ci := 12) (v := .ref (q 48)) (C := RX12) (T := TX12) (N := 59) hx hb hts inX12 hown hK hP 0 rfl rfl 48 (by decide) fl124 (fun _ h9 => h9) rfl dX12_goes_69 ?_
  refine lv_iload_n hx hb dX12_goes_72 rfl (lv_at hl 5 rfl) ?_
  refine va_iald hx hb hK hP 3 0 rfl rfl (show vp_in 0 4 from by unfold vp_in; decide) dX12_goes_73 ?_
  refine lv_istore (lv' := [(6, .int 0), (5, .int (-1)), (4, .int 0), (3, .int 0), (2, .int 0), (0, .ref h0), (1, .int 0)]) hx hb dX12_goes_74 hl (by decide) rfl (fun ls hl => ?_)
  refine lv_iload_n hx hb dX12_goes_76 rfl (lv_at hl 3 rfl) ?_
  refine lv_iconst (v := 1) hx hb dX12_goes_77 (by decide) ?_
  refine lv_isub hx hb dX12_goes_78 ?_
  refine lv_topi (fun x4 ex4 => ?_)
  obtain rfl : x4 = (-1) := ex4.trans (by decide +kernel)
  refine lv_istore (lv' := [(7, .int (-1)), (6, .int 0), (5, .int (-1)), (4, .int 0), (3, .int 0), (2, .int 0), (0, .ref h0), (1, .int 0)]) hx hb dX12_goes_79 hl (by decide) rfl (fun ls hl => ?_)
  refine lv_iload hx hb dX12_goes_81 (lv_at hl 0 rfl) ?_
  refine lv_if_lt (tgt := 183) hx hb dX12_goes_83 (by decide) (fun _ => ?_) (fun c9 => absurd c9 (by decide))
  have hP9 := hP.sub (ws' := [(h0, .inr (12, mO q)), (q 52, .inl (E.2 0, 512, .inl (fun _ => 0))), (q 47, .inl (E.2 0, 4, .inl fc)), (q 48, .inl (E.2 0, 4, .inl (fun _ => 0)))]) [0, 1, 2, 3] rfl
  have hD9 := hD.sub (ws' := [(h0, .inr (12, mO q)), (q 52, .inl (E.2 0, 512, .inl (fun _ => 0))), (q 47, .inl (E.2 0, 4, .inl fc)), (q 48, .inl (E.2 0, 4, .inl (fun _ => 0)))]) [0, 1, 2, 3] (by decide) rfl
  exact W.vret hx hb hr (fun t ht hW => ⟨⟨(), rfl, trivial, by rw [ht]; exact hP9, hD9⟩, hS.F ht⟩) hS.2.2 dX12_goes_183
set_option maxHeartbeats 4000000 in
set_option maxRecDepth 100000 in
theorem c_X12_goes1 (l : Launch) (E : vE) (h0 : Nat) (q : Nat → Nat) (fc : Nat → Int32) (sz : Nat) (hfc : ∀ k, k < 4 → fc k = -1) : Met l yX12_goes wsX12_goes ({ frames := 0, cells := 0, slots := 0, locals := 0 }) (pcW E [.ref h0, .int 1] sz [(h0, .inr (12, mO q)), (q 52, .inl (E.2 0, 512, .inl (fun _ => 0))), (q 47, .inl (E.2 0, 4, .inl fc)), (q 48, .inl (E.2 0, 4, .inl (fun _ => 0)))]) (va_Qv (fun (_ : Unit) => True) (fun (_ : Unit) (t : State) => wB E (va_A [(h0, .inr (12, mO q)), (q 52, .inl (E.2 0, 512, .inl (fun _ => 0))), (q 47, .inl (E.2 0, 4, .inl fc)), (q 48, .inl (E.2 0, 4, .inl (fun _ => 0)))] sz) [(h0, .inr (12, mO q)), (q 52, .inl (E.2 0, 512, .inl (fun _ => 0))), (q 47, .inl (E.2 0, 4, .inl fc)), (q 48, .inl (E.2 0, 4, .inl (fun _ => 0)))] t) (va_A [(h0, .inr (12, mO q)), (q 52, .inl (E.2 0, 512, .inl (fun _ => 0))), (q 47, .inl (E.2 0, 4, .inl fc)), (q 48, .inl (E.2 0, 4, .inl (fun _ => 0)))] sz)) 0 0 (va_A [(h0, .inr (12, mO q)), (q 52, .inl (E.2 0, 512, .inl (fun _ => 0))), (q 47, .inl (E.2 0, 4, .inl fc)), (q 48, .inl (E.2 0, 4, .inl (fun _ => 0)))] sz) := by
  refine Met.ofW (cc := cX12_goes) (maxL := 10) (ret := none) (by decide) rfl ?_
  intro p e s m args below meth c s₁ B hml hv
  obtain ⟨rfl, hsz, hP, hkn, hD0, hst⟩ := hv
  have hx := B.exec
  have hb := B.bytes
  have hr := B.returns
  have hts := atoms_spec (ws := wsX12_goes) B.pre
  have hown : s.vm.findClass RX12 = some m.cls := findClass_of_methodNamed B.named
  have hlocks := B.notSynchronized
  subst hsz
  have hD := hD0.self (sz := s.heap.size)
  have hK := hkn.1
  have hAO := hkn.2.2
  generalize hAe : va_A [(h0, .inr (12, mO q)), (q 52, .inl (E.2 0, 512, .inl (fun _ => 0))), (q 47, .inl (E.2 0, 4, .inl fc)), (q 48, .inl (E.2 0, 4, .inl (fun _ => 0)))] s.heap.size = A at hD hst ⊢
  have hA : ∀ q : Nat, s.heap.size ≤ q → A q := fun q h => by rw [← hAe]; exact Or.inr h
  have hS : va_S A s.heap s.heap [] := va_S.rf
  have hP : va_P E.1 vwCl [(h0, .inr (12, mO q)), (q 52, .inl (E.2 0, 512, .inl (fun _ => 0))), (q 47, .inl (E.2 0, 4, .inl fc)), (q 48, .inl (E.2 0, 4, .inl (fun _ => 0)))] s.heap := hP
  have hl := lv_entry ([.ref h0, .int 1]) (n := 10) (Nat.le_of_ble_eq_true rfl)
  rw [lg_entry_eq]
  generalize (lg_sl ([.ref h0, .int 1]) ++ List.replicate (10 - (lg_sl ([.ref h0, .int 1])).length) Slot.unset).toArray = ls at hl ⊢
  have hl : lv_has ls 10 [(0, .ref h0), (1, .int 1)] := hl
  have fl106 := hts (.fieldLink RX12 106 "BoatsHomeModel" "dFrom" "[I") (by decide +kernel)
  have fl109 := hts (.fieldLink RX12 109 "BoatsHomeModel" "dTo" "[I") (by decide +kernel)
  have fl112 := hts (.fieldLink RX12 112 "BoatsHomeModel" "dDays" "[I") (by decide +kernel)
  have fl115 := hts (.fieldLink RX12 115 "BoatsHomeModel" "dFirst" "[I") (by decide +kernel)
  have fl121 := hts (.fieldLink RX12 121 "BoatsHomeModel" "crewPort" "[I") (by decide +kernel)
  have fl124 := hts (.fieldLink RX12 124 "BoatsHomeModel" "crewDay" "[I") (by decide +kernel)
  have fl133 := hts (.fieldLink RX12 133 "BoatsHomeModel" "order" "[I") (by decide +kernel)
  have fl139 := hts (.fieldLink RX12 139 "BoatsHomeModel" "bestGiven" "[I") (by decide +kernel)
  have fl145 := hts (.fieldLink RX12 145 "BoatsHomeModel" "beginsOn" "[I") (by decide +kernel)
  have fl289 := hts (.fieldLink RX12 289 "BoatsHomeModel" "deliveries" "I") (by decide +kernel)
  have inX12 : ∀ w ∈ u_ws RX12 TX12 59, w ∈ wsX12_goes := by decide +kernel
  refine lv_iconst (v := 0) hx hb dX12_goes_0 (by decide) ?_
  refine lv_istore_n (lv' := [(2, .int 0), (0, .ref h0), (1, .int 1)]) hx hb dX12_goes_1 rfl hl (by decide) rfl (fun ls hl => ?_)
  refine lv_iconst (v := 0) hx hb dX12_goes_2 (by decide) ?_
  refine lv_istore_n (lv' := [(3, .int 0), (2, .int 0), (0, .ref h0), (1, .int 1)]) hx hb dX12_goes_3 rfl hl (by decide) rfl (fun ls hl => ?_)
  refine lv_iconst (v := 0) hx hb dX12_goes_4 (by decide) ?_
  refine lv_istore (lv' := [(4, .int 0), (3, .int 0), (2, .int 0), (0, .ref h0), (1, .int 1)]) hx hb dX12_goes_5 hl (by decide) rfl (fun ls hl => ?_)
  refine lv_iload hx hb dX12_goes_7 (lv_at hl 0 rfl) ?_
  refine lv_aload_n hx hb dX12_goes_9 rfl (lv_at hl 3 rfl) ?_
  refine va_get (D := E.1) (ci := 12) (v := .int 0) (C := RX12) (T := TX12) (N := 59) hx hb hts inX12 hown hK hP 0 rfl rfl 41 (by decide) fl289 (fun _ h9 => h9) rfl dX12_goes_10 ?_
  refine lv_icmp_ge (tgt := 46) hx hb dX12_goes_13 (by decide) (fun _ => ?_) (fun c9 => absurd c9 (by decide))
  refine lv_aload_n hx hb dX12_goes_46 rfl (lv_at hl 3 rfl) ?_
  refine va_get (D := E.1) (ci := 12) (v := .ref (q 52)) (C := RX12) (T := TX12) (N := 59) hx hb hts inX12 hown hK hP 0 rfl rfl 52 (by decide) fl133 (fun _ h9 => h9) rfl dX12_goes_47 ?_
  refine lv_sipush (v := 128) hx hb dX12_goes_50 (by decide) ?_
  refine lv_iload_n hx hb dX12_goes_53 rfl (lv_at hl 4 rfl) ?_
  refine lv_imul hx hb dX12_goes_54 ?_
  refine lv_topi (fun x1 ex1 => ?_)
  obtain rfl : x1 = 128 := ex1.trans (by decide +kernel)
  refine lv_iload_n hx hb dX12_goes_55 rfl (lv_at hl 2 rfl) ?_
  refine lv_iadd hx hb dX12_goes_56 ?_
  refine lv_topi (fun x2 ex2 => ?_)
  obtain rfl : x2 = 128 := ex2.trans (by decide +kernel)
  refine va_iald hx hb hK hP 1 0 rfl rfl (show vp_in 128 512 from by unfold vp_in; decide) dX12_goes_57 ?_
  refine lv_istore (lv' := [(4, .int 0), (3, .int 0), (2, .int 0), (0, .ref h0), (1, .int 1)]) hx hb dX12_goes_58 hl (by decide) rfl (fun ls hl => ?_)
  refine lv_aload_n hx hb dX12_goes_60 rfl (lv_at hl 3 rfl) ?_
  refine va_get (D := E.1) (ci := 12) (v := .ref (q 47)) (C := RX12) (T := TX12) (N := 59) hx hb hts inX12 hown hK hP 0 rfl rfl 47 (by decide) fl121 (fun _ h9 => h9) rfl dX12_goes_61 ?_
  refine lv_iload_n hx hb dX12_goes_64 rfl (lv_at hl 4 rfl) ?_
  refine va_iald hx hb hK hP 2 0 rfl rfl (show vp_in 1 4 from by unfold vp_in; decide) dX12_goes_65 ?_
  refine lv_topi (fun x3 ex3 => ?_)
  obtain rfl : x3 = -1 := ex3.trans (hfc 1 (by decide))
  refine lv_istore (lv' := [(5, .int (-1)), (4, .int 0), (3, .int 0), (2, .int 0), (0, .ref h0), (1, .int 1)]) hx hb dX12_goes_66 hl (by decide) rfl (fun ls hl => ?_)
  refine lv_aload_n hx hb dX12_goes_68 rfl (lv_at hl 4 rfl) ?_
  refine va_get (D := E.1) (ci := 12) (v := .ref (q 48)) (C := RX12) (T := TX12) (N := 59) hx hb hts inX12 hown hK hP 0 rfl rfl 48 (by decide) fl124 (fun _ h9 => h9) rfl dX12_goes_69 ?_
  refine lv_iload_n hx hb dX12_goes_72 rfl (lv_at hl 5 rfl) ?_
  refine va_iald hx hb hK hP 3 0 rfl rfl (show vp_in 1 4 from by unfold vp_in; decide) dX12_goes_73 ?_
  refine lv_istore (lv' := [(6, .int 0), (5, .int (-1)), (4, .int 0), (3, .int 0), (2, .int 0), (0, .ref h0), (1, .int 1)]) hx hb dX12_goes_74 hl (by decide) rfl (fun ls hl => ?_)
  refine lv_iload_n hx hb dX12_goes_76 rfl (lv_at hl 3 rfl) ?_
  refine lv_iconst (v := 1) hx hb dX12_goes_77 (by decide) ?_
  refine lv_isub hx hb dX12_goes_78 ?_
  refine lv_topi (fun x4 ex4 => ?_)
  obtain rfl : x4 = (-1) := ex4.trans (by decide +kernel)
  refine lv_istore (lv' := [(7, .int (-1)), (6, .int 0), (5, .int (-1)), (4, .int 0), (3, .int 0), (2, .int 0), (0, .ref h0), (1, .int 1)]) hx hb dX12_goes_79 hl (by decide) rfl (fun ls hl => ?_)
  refine lv_iload hx hb dX12_goes_81 (lv_at hl 0 rfl) ?_
  refine lv_if_lt (tgt := 183) hx hb dX12_goes_83 (by decide) (fun _ => ?_) (fun c9 => absurd c9 (by decide))
  have hP9 := hP.sub (ws' := [(h0, .inr (12, mO q)), (q 52, .inl (E.2 0, 512, .inl (fun _ => 0))), (q 47, .inl (E.2 0, 4, .inl fc)), (q 48, .inl (E.2 0, 4, .inl (fun _ => 0)))]) [0, 1, 2, 3] rfl
  have hD9 := hD.sub (ws' := [(h0, .inr (12, mO q)), (q 52, .inl (E.2 0, 512, .inl (fun _ => 0))), (q 47, .inl (E.2 0, 4, .inl fc)), (q 48, .inl (E.2 0, 4, .inl (fun _ => 0)))]) [0, 1, 2, 3] (by decide) rfl
  exact W.vret hx hb hr (fun t ht hW => ⟨⟨(), rfl, trivial, by rw [ht]; exact hP9, hD9⟩, hS.F ht⟩) hS.2.2 dX12_goes_183
set_option maxHeartbeats 4000000 in
set_option maxRecDepth 100000 in
theorem c_X12_goes2 (l : Launch) (E : vE) (h0 : Nat) (q : Nat → Nat) (fc : Nat → Int32) (sz : Nat) (hfc : ∀ k, k < 4 → fc k = -1) : Met l yX12_goes wsX12_goes ({ frames := 0, cells := 0, slots := 0, locals := 0 }) (pcW E [.ref h0, .int 2] sz [(h0, .inr (12, mO q)), (q 52, .inl (E.2 0, 512, .inl (fun _ => 0))), (q 47, .inl (E.2 0, 4, .inl fc)), (q 48, .inl (E.2 0, 4, .inl (fun _ => 0)))]) (va_Qv (fun (_ : Unit) => True) (fun (_ : Unit) (t : State) => wB E (va_A [(h0, .inr (12, mO q)), (q 52, .inl (E.2 0, 512, .inl (fun _ => 0))), (q 47, .inl (E.2 0, 4, .inl fc)), (q 48, .inl (E.2 0, 4, .inl (fun _ => 0)))] sz) [(h0, .inr (12, mO q)), (q 52, .inl (E.2 0, 512, .inl (fun _ => 0))), (q 47, .inl (E.2 0, 4, .inl fc)), (q 48, .inl (E.2 0, 4, .inl (fun _ => 0)))] t) (va_A [(h0, .inr (12, mO q)), (q 52, .inl (E.2 0, 512, .inl (fun _ => 0))), (q 47, .inl (E.2 0, 4, .inl fc)), (q 48, .inl (E.2 0, 4, .inl (fun _ => 0)))] sz)) 0 0 (va_A [(h0, .inr (12, mO q)), (q 52, .inl (E.2 0, 512, .inl (fun _ => 0))), (q 47, .inl (E.2 0, 4, .inl fc)), (q 48, .inl (E.2 0, 4, .inl (fun _ => 0)))] sz) := by
  refine Met.ofW (cc := cX12_goes) (maxL := 10) (ret := none) (by decide) rfl ?_
  intro p e s m args below meth c s₁ B hml hv
  obtain ⟨rfl, hsz, hP, hkn, hD0, hst⟩ := hv
  have hx := B.exec
  have hb := B.bytes
  have hr := B.returns
  have hts := atoms_spec (ws := wsX12_goes) B.pre
  have hown : s.vm.findClass RX12 = some m.cls := findClass_of_methodNamed B.named
  have hlocks := B.notSynchronized
  subst hsz
  have hD := hD0.self (sz := s.heap.size)
  have hK := hkn.1
  have hAO := hkn.2.2
  generalize hAe : va_A [(h0, .inr (12, mO q)), (q 52, .inl (E.2 0, 512, .inl (fun _ => 0))), (q 47, .inl (E.2 0, 4, .inl fc)), (q 48, .inl (E.2 0, 4, .inl (fun _ => 0)))] s.heap.size = A at hD hst ⊢
  have hA : ∀ q : Nat, s.heap.size ≤ q → A q := fun q h => by rw [← hAe]; exact Or.inr h
  have hS : va_S A s.heap s.heap [] := va_S.rf
  have hP : va_P E.1 vwCl [(h0, .inr (12, mO q)), (q 52, .inl (E.2 0, 512, .inl (fun _ => 0))), (q 47, .inl (E.2 0, 4, .inl fc)), (q 48, .inl (E.2 0, 4, .inl (fun _ => 0)))] s.heap := hP
  have hl := lv_entry ([.ref h0, .int 2]) (n := 10) (Nat.le_of_ble_eq_true rfl)
  rw [lg_entry_eq]
  generalize (lg_sl ([.ref h0, .int 2]) ++ List.replicate (10 - (lg_sl ([.ref h0, .int 2])).length) Slot.unset).toArray = ls at hl ⊢
  have hl : lv_has ls 10 [(0, .ref h0), (1, .int 2)] := hl
  have fl106 := hts (.fieldLink RX12 106 "BoatsHomeModel" "dFrom" "[I") (by decide +kernel)
  have fl109 := hts (.fieldLink RX12 109 "BoatsHomeModel" "dTo" "[I") (by decide +kernel)
  have fl112 := hts (.fieldLink RX12 112 "BoatsHomeModel" "dDays" "[I") (by decide +kernel)
  have fl115 := hts (.fieldLink RX12 115 "BoatsHomeModel" "dFirst" "[I") (by decide +kernel)
  have fl121 := hts (.fieldLink RX12 121 "BoatsHomeModel" "crewPort" "[I") (by decide +kernel)
  have fl124 := hts (.fieldLink RX12 124 "BoatsHomeModel" "crewDay" "[I") (by decide +kernel)
  have fl133 := hts (.fieldLink RX12 133 "BoatsHomeModel" "order" "[I") (by decide +kernel)
  have fl139 := hts (.fieldLink RX12 139 "BoatsHomeModel" "bestGiven" "[I") (by decide +kernel)
  have fl145 := hts (.fieldLink RX12 145 "BoatsHomeModel" "beginsOn" "[I") (by decide +kernel)
  have fl289 := hts (.fieldLink RX12 289 "BoatsHomeModel" "deliveries" "I") (by decide +kernel)
  have inX12 : ∀ w ∈ u_ws RX12 TX12 59, w ∈ wsX12_goes := by decide +kernel
  refine lv_iconst (v := 0) hx hb dX12_goes_0 (by decide) ?_
  refine lv_istore_n (lv' := [(2, .int 0), (0, .ref h0), (1, .int 2)]) hx hb dX12_goes_1 rfl hl (by decide) rfl (fun ls hl => ?_)
  refine lv_iconst (v := 0) hx hb dX12_goes_2 (by decide) ?_
  refine lv_istore_n (lv' := [(3, .int 0), (2, .int 0), (0, .ref h0), (1, .int 2)]) hx hb dX12_goes_3 rfl hl (by decide) rfl (fun ls hl => ?_)
  refine lv_iconst (v := 0) hx hb dX12_goes_4 (by decide) ?_
  refine lv_istore (lv' := [(4, .int 0), (3, .int 0), (2, .int 0), (0, .ref h0), (1, .int 2)]) hx hb dX12_goes_5 hl (by decide) rfl (fun ls hl => ?_)
  refine lv_iload hx hb dX12_goes_7 (lv_at hl 0 rfl) ?_
  refine lv_aload_n hx hb dX12_goes_9 rfl (lv_at hl 3 rfl) ?_
  refine va_get (D := E.1) (ci := 12) (v := .int 0) (C := RX12) (T := TX12) (N := 59) hx hb hts inX12 hown hK hP 0 rfl rfl 41 (by decide) fl289 (fun _ h9 => h9) rfl dX12_goes_10 ?_
  refine lv_icmp_ge (tgt := 46) hx hb dX12_goes_13 (by decide) (fun _ => ?_) (fun c9 => absurd c9 (by decide))
  refine lv_aload_n hx hb dX12_goes_46 rfl (lv_at hl 3 rfl) ?_
  refine va_get (D := E.1) (ci := 12) (v := .ref (q 52)) (C := RX12) (T := TX12) (N := 59) hx hb hts inX12 hown hK hP 0 rfl rfl 52 (by decide) fl133 (fun _ h9 => h9) rfl dX12_goes_47 ?_
  refine lv_sipush (v := 128) hx hb dX12_goes_50 (by decide) ?_
  refine lv_iload_n hx hb dX12_goes_53 rfl (lv_at hl 4 rfl) ?_
  refine lv_imul hx hb dX12_goes_54 ?_
  refine lv_topi (fun x1 ex1 => ?_)
  obtain rfl : x1 = 256 := ex1.trans (by decide +kernel)
  refine lv_iload_n hx hb dX12_goes_55 rfl (lv_at hl 2 rfl) ?_
  refine lv_iadd hx hb dX12_goes_56 ?_
  refine lv_topi (fun x2 ex2 => ?_)
  obtain rfl : x2 = 256 := ex2.trans (by decide +kernel)
  refine va_iald hx hb hK hP 1 0 rfl rfl (show vp_in 256 512 from by unfold vp_in; decide) dX12_goes_57 ?_
  refine lv_istore (lv' := [(4, .int 0), (3, .int 0), (2, .int 0), (0, .ref h0), (1, .int 2)]) hx hb dX12_goes_58 hl (by decide) rfl (fun ls hl => ?_)
  refine lv_aload_n hx hb dX12_goes_60 rfl (lv_at hl 3 rfl) ?_
  refine va_get (D := E.1) (ci := 12) (v := .ref (q 47)) (C := RX12) (T := TX12) (N := 59) hx hb hts inX12 hown hK hP 0 rfl rfl 47 (by decide) fl121 (fun _ h9 => h9) rfl dX12_goes_61 ?_
  refine lv_iload_n hx hb dX12_goes_64 rfl (lv_at hl 4 rfl) ?_
  refine va_iald hx hb hK hP 2 0 rfl rfl (show vp_in 2 4 from by unfold vp_in; decide) dX12_goes_65 ?_
  refine lv_topi (fun x3 ex3 => ?_)
  obtain rfl : x3 = -1 := ex3.trans (hfc 2 (by decide))
  refine lv_istore (lv' := [(5, .int (-1)), (4, .int 0), (3, .int 0), (2, .int 0), (0, .ref h0), (1, .int 2)]) hx hb dX12_goes_66 hl (by decide) rfl (fun ls hl => ?_)
  refine lv_aload_n hx hb dX12_goes_68 rfl (lv_at hl 4 rfl) ?_
  refine va_get (D := E.1) (ci := 12) (v := .ref (q 48)) (C := RX12) (T := TX12) (N := 59) hx hb hts inX12 hown hK hP 0 rfl rfl 48 (by decide) fl124 (fun _ h9 => h9) rfl dX12_goes_69 ?_
  refine lv_iload_n hx hb dX12_goes_72 rfl (lv_at hl 5 rfl) ?_
  refine va_iald hx hb hK hP 3 0 rfl rfl (show vp_in 2 4 from by unfold vp_in; decide) dX12_goes_73 ?_
  refine lv_istore (lv' := [(6, .int 0), (5, .int (-1)), (4, .int 0), (3, .int 0), (2, .int 0), (0, .ref h0), (1, .int 2)]) hx hb dX12_goes_74 hl (by decide) rfl (fun ls hl => ?_)
  refine lv_iload_n hx hb dX12_goes_76 rfl (lv_at hl 3 rfl) ?_
  refine lv_iconst (v := 1) hx hb dX12_goes_77 (by decide) ?_
  refine lv_isub hx hb dX12_goes_78 ?_
  refine lv_topi (fun x4 ex4 => ?_)
  obtain rfl : x4 = (-1) := ex4.trans (by decide +kernel)
  refine lv_istore (lv' := [(7, .int (-1)), (6, .int 0), (5, .int (-1)), (4, .int 0), (3, .int 0), (2, .int 0), (0, .ref h0), (1, .int 2)]) hx hb dX12_goes_79 hl (by decide) rfl (fun ls hl => ?_)
  refine lv_iload hx hb dX12_goes_81 (lv_at hl 0 rfl) ?_
  refine lv_if_lt (tgt := 183) hx hb dX12_goes_83 (by decide) (fun _ => ?_) (fun c9 => absurd c9 (by decide))
  have hP9 := hP.sub (ws' := [(h0, .inr (12, mO q)), (q 52, .inl (E.2 0, 512, .inl (fun _ => 0))), (q 47, .inl (E.2 0, 4, .inl fc)), (q 48, .inl (E.2 0, 4, .inl (fun _ => 0)))]) [0, 1, 2, 3] rfl
  have hD9 := hD.sub (ws' := [(h0, .inr (12, mO q)), (q 52, .inl (E.2 0, 512, .inl (fun _ => 0))), (q 47, .inl (E.2 0, 4, .inl fc)), (q 48, .inl (E.2 0, 4, .inl (fun _ => 0)))]) [0, 1, 2, 3] (by decide) rfl
  exact W.vret hx hb hr (fun t ht hW => ⟨⟨(), rfl, trivial, by rw [ht]; exact hP9, hD9⟩, hS.F ht⟩) hS.2.2 dX12_goes_183
set_option maxHeartbeats 4000000 in
set_option maxRecDepth 100000 in
theorem c_X12_goes3 (l : Launch) (E : vE) (h0 : Nat) (q : Nat → Nat) (fc : Nat → Int32) (sz : Nat) (hfc : ∀ k, k < 4 → fc k = -1) : Met l yX12_goes wsX12_goes ({ frames := 0, cells := 0, slots := 0, locals := 0 }) (pcW E [.ref h0, .int 3] sz [(h0, .inr (12, mO q)), (q 52, .inl (E.2 0, 512, .inl (fun _ => 0))), (q 47, .inl (E.2 0, 4, .inl fc)), (q 48, .inl (E.2 0, 4, .inl (fun _ => 0)))]) (va_Qv (fun (_ : Unit) => True) (fun (_ : Unit) (t : State) => wB E (va_A [(h0, .inr (12, mO q)), (q 52, .inl (E.2 0, 512, .inl (fun _ => 0))), (q 47, .inl (E.2 0, 4, .inl fc)), (q 48, .inl (E.2 0, 4, .inl (fun _ => 0)))] sz) [(h0, .inr (12, mO q)), (q 52, .inl (E.2 0, 512, .inl (fun _ => 0))), (q 47, .inl (E.2 0, 4, .inl fc)), (q 48, .inl (E.2 0, 4, .inl (fun _ => 0)))] t) (va_A [(h0, .inr (12, mO q)), (q 52, .inl (E.2 0, 512, .inl (fun _ => 0))), (q 47, .inl (E.2 0, 4, .inl fc)), (q 48, .inl (E.2 0, 4, .inl (fun _ => 0)))] sz)) 0 0 (va_A [(h0, .inr (12, mO q)), (q 52, .inl (E.2 0, 512, .inl (fun _ => 0))), (q 47, .inl (E.2 0, 4, .inl fc)), (q 48, .inl (E.2 0, 4, .inl (fun _ => 0)))] sz) := by
  refine Met.ofW (cc := cX12_goes) (maxL := 10) (ret := none) (by decide) rfl ?_
  intro p e s m args below meth c s₁ B hml hv
  obtain ⟨rfl, hsz, hP, hkn, hD0, hst⟩ := hv
  have hx := B.exec
  have hb := B.bytes
  have hr := B.returns
  have hts := atoms_spec (ws := wsX12_goes) B.pre
  have hown : s.vm.findClass RX12 = some m.cls := findClass_of_methodNamed B.named
  have hlocks := B.notSynchronized
  subst hsz
  have hD := hD0.self (sz := s.heap.size)
  have hK := hkn.1
  have hAO := hkn.2.2
  generalize hAe : va_A [(h0, .inr (12, mO q)), (q 52, .inl (E.2 0, 512, .inl (fun _ => 0))), (q 47, .inl (E.2 0, 4, .inl fc)), (q 48, .inl (E.2 0, 4, .inl (fun _ => 0)))] s.heap.size = A at hD hst ⊢
  have hA : ∀ q : Nat, s.heap.size ≤ q → A q := fun q h => by rw [← hAe]; exact Or.inr h
  have hS : va_S A s.heap s.heap [] := va_S.rf
  have hP : va_P E.1 vwCl [(h0, .inr (12, mO q)), (q 52, .inl (E.2 0, 512, .inl (fun _ => 0))), (q 47, .inl (E.2 0, 4, .inl fc)), (q 48, .inl (E.2 0, 4, .inl (fun _ => 0)))] s.heap := hP
  have hl := lv_entry ([.ref h0, .int 3]) (n := 10) (Nat.le_of_ble_eq_true rfl)
  rw [lg_entry_eq]
  generalize (lg_sl ([.ref h0, .int 3]) ++ List.replicate (10 - (lg_sl ([.ref h0, .int 3])).length) Slot.unset).toArray = ls at hl ⊢
  have hl : lv_has ls 10 [(0, .ref h0), (1, .int 3)] := hl
  have fl106 := hts (.fieldLink RX12 106 "BoatsHomeModel" "dFrom" "[I") (by decide +kernel)
  have fl109 := hts (.fieldLink RX12 109 "BoatsHomeModel" "dTo" "[I") (by decide +kernel)
  have fl112 := hts (.fieldLink RX12 112 "BoatsHomeModel" "dDays" "[I") (by decide +kernel)
  have fl115 := hts (.fieldLink RX12 115 "BoatsHomeModel" "dFirst" "[I") (by decide +kernel)
  have fl121 := hts (.fieldLink RX12 121 "BoatsHomeModel" "crewPort" "[I") (by decide +kernel)
  have fl124 := hts (.fieldLink RX12 124 "BoatsHomeModel" "crewDay" "[I") (by decide +kernel)
  have fl133 := hts (.fieldLink RX12 133 "BoatsHomeModel" "order" "[I") (by decide +kernel)
  have fl139 := hts (.fieldLink RX12 139 "BoatsHomeModel" "bestGiven" "[I") (by decide +kernel)
  have fl145 := hts (.fieldLink RX12 145 "BoatsHomeModel" "beginsOn" "[I") (by decide +kernel)
  have fl289 := hts (.fieldLink RX12 289 "BoatsHomeModel" "deliveries" "I") (by decide +kernel)
  have inX12 : ∀ w ∈ u_ws RX12 TX12 59, w ∈ wsX12_goes := by decide +kernel
  refine lv_iconst (v := 0) hx hb dX12_goes_0 (by decide) ?_
  refine lv_istore_n (lv' := [(2, .int 0), (0, .ref h0), (1, .int 3)]) hx hb dX12_goes_1 rfl hl (by decide) rfl (fun ls hl => ?_)
  refine lv_iconst (v := 0) hx hb dX12_goes_2 (by decide) ?_
  refine lv_istore_n (lv' := [(3, .int 0), (2, .int 0), (0, .ref h0), (1, .int 3)]) hx hb dX12_goes_3 rfl hl (by decide) rfl (fun ls hl => ?_)
  refine lv_iconst (v := 0) hx hb dX12_goes_4 (by decide) ?_
  refine lv_istore (lv' := [(4, .int 0), (3, .int 0), (2, .int 0), (0, .ref h0), (1, .int 3)]) hx hb dX12_goes_5 hl (by decide) rfl (fun ls hl => ?_)
  refine lv_iload hx hb dX12_goes_7 (lv_at hl 0 rfl) ?_
  refine lv_aload_n hx hb dX12_goes_9 rfl (lv_at hl 3 rfl) ?_
  refine va_get (D := E.1) (ci := 12) (v := .int 0) (C := RX12) (T := TX12) (N := 59) hx hb hts inX12 hown hK hP 0 rfl rfl 41 (by decide) fl289 (fun _ h9 => h9) rfl dX12_goes_10 ?_
  refine lv_icmp_ge (tgt := 46) hx hb dX12_goes_13 (by decide) (fun _ => ?_) (fun c9 => absurd c9 (by decide))
  refine lv_aload_n hx hb dX12_goes_46 rfl (lv_at hl 3 rfl) ?_
  refine va_get (D := E.1) (ci := 12) (v := .ref (q 52)) (C := RX12) (T := TX12) (N := 59) hx hb hts inX12 hown hK hP 0 rfl rfl 52 (by decide) fl133 (fun _ h9 => h9) rfl dX12_goes_47 ?_
  refine lv_sipush (v := 128) hx hb dX12_goes_50 (by decide) ?_
  refine lv_iload_n hx hb dX12_goes_53 rfl (lv_at hl 4 rfl) ?_
  refine lv_imul hx hb dX12_goes_54 ?_
  refine lv_topi (fun x1 ex1 => ?_)
  obtain rfl : x1 = 384 := ex1.trans (by decide +kernel)
  refine lv_iload_n hx hb dX12_goes_55 rfl (lv_at hl 2 rfl) ?_
  refine lv_iadd hx hb dX12_goes_56 ?_
  refine lv_topi (fun x2 ex2 => ?_)
  obtain rfl : x2 = 384 := ex2.trans (by decide +kernel)
  refine va_iald hx hb hK hP 1 0 rfl rfl (show vp_in 384 512 from by unfold vp_in; decide) dX12_goes_57 ?_
  refine lv_istore (lv' := [(4, .int 0), (3, .int 0), (2, .int 0), (0, .ref h0), (1, .int 3)]) hx hb dX12_goes_58 hl (by decide) rfl (fun ls hl => ?_)
  refine lv_aload_n hx hb dX12_goes_60 rfl (lv_at hl 3 rfl) ?_
  refine va_get (D := E.1) (ci := 12) (v := .ref (q 47)) (C := RX12) (T := TX12) (N := 59) hx hb hts inX12 hown hK hP 0 rfl rfl 47 (by decide) fl121 (fun _ h9 => h9) rfl dX12_goes_61 ?_
  refine lv_iload_n hx hb dX12_goes_64 rfl (lv_at hl 4 rfl) ?_
  refine va_iald hx hb hK hP 2 0 rfl rfl (show vp_in 3 4 from by unfold vp_in; decide) dX12_goes_65 ?_
  refine lv_topi (fun x3 ex3 => ?_)
  obtain rfl : x3 = -1 := ex3.trans (hfc 3 (by decide))
  refine lv_istore (lv' := [(5, .int (-1)), (4, .int 0), (3, .int 0), (2, .int 0), (0, .ref h0), (1, .int 3)]) hx hb dX12_goes_66 hl (by decide) rfl (fun ls hl => ?_)
  refine lv_aload_n hx hb dX12_goes_68 rfl (lv_at hl 4 rfl) ?_
  refine va_get (D := E.1) (ci := 12) (v := .ref (q 48)) (C := RX12) (T := TX12) (N := 59) hx hb hts inX12 hown hK hP 0 rfl rfl 48 (by decide) fl124 (fun _ h9 => h9) rfl dX12_goes_69 ?_
  refine lv_iload_n hx hb dX12_goes_72 rfl (lv_at hl 5 rfl) ?_
  refine va_iald hx hb hK hP 3 0 rfl rfl (show vp_in 3 4 from by unfold vp_in; decide) dX12_goes_73 ?_
  refine lv_istore (lv' := [(6, .int 0), (5, .int (-1)), (4, .int 0), (3, .int 0), (2, .int 0), (0, .ref h0), (1, .int 3)]) hx hb dX12_goes_74 hl (by decide) rfl (fun ls hl => ?_)
  refine lv_iload_n hx hb dX12_goes_76 rfl (lv_at hl 3 rfl) ?_
  refine lv_iconst (v := 1) hx hb dX12_goes_77 (by decide) ?_
  refine lv_isub hx hb dX12_goes_78 ?_
  refine lv_topi (fun x4 ex4 => ?_)
  obtain rfl : x4 = (-1) := ex4.trans (by decide +kernel)
  refine lv_istore (lv' := [(7, .int (-1)), (6, .int 0), (5, .int (-1)), (4, .int 0), (3, .int 0), (2, .int 0), (0, .ref h0), (1, .int 3)]) hx hb dX12_goes_79 hl (by decide) rfl (fun ls hl => ?_)
  refine lv_iload hx hb dX12_goes_81 (lv_at hl 0 rfl) ?_
  refine lv_if_lt (tgt := 183) hx hb dX12_goes_83 (by decide) (fun _ => ?_) (fun c9 => absurd c9 (by decide))
  have hP9 := hP.sub (ws' := [(h0, .inr (12, mO q)), (q 52, .inl (E.2 0, 512, .inl (fun _ => 0))), (q 47, .inl (E.2 0, 4, .inl fc)), (q 48, .inl (E.2 0, 4, .inl (fun _ => 0)))]) [0, 1, 2, 3] rfl
  have hD9 := hD.sub (ws' := [(h0, .inr (12, mO q)), (q 52, .inl (E.2 0, 512, .inl (fun _ => 0))), (q 47, .inl (E.2 0, 4, .inl fc)), (q 48, .inl (E.2 0, 4, .inl (fun _ => 0)))]) [0, 1, 2, 3] (by decide) rfl
  exact W.vret hx hb hr (fun t ht hW => ⟨⟨(), rfl, trivial, by rw [ht]; exact hP9, hD9⟩, hS.F ht⟩) hS.2.2 dX12_goes_183
set_option maxHeartbeats 4000000 in
set_option maxRecDepth 100000 in
theorem c_X12_plan (l : Launch) (E : vE) (h0 : Nat) (q : Nat → Nat) (fc : Nat → Int32) (sz : Nat) (hfc : ∀ k, k < 4 → fc k = -1) : Met l yX12_plan wsX12_plan ({ frames := 2, cells := 0, slots := 0, locals := 42 }) (pcW E [.ref h0] sz [(h0, .inr (12, mO q)), (q 51, .inl (E.2 0, 512, .inl (fun _ => 0))), (q 52, .inl (E.2 0, 512, .inl (fun _ => 0))), (q 55, .inl (E.2 0, 4, .inl (fun _ => 0))), (q 47, .inl (E.2 0, 4, .inl fc)), (q 48, .inl (E.2 0, 4, .inl (fun _ => 0)))]) (va_Qi (fun (r : Int32) (_ : Unit) => r = 0) (fun (_ : Unit) (t : State) => wB E (va_A [(h0, .inr (12, mO q)), (q 51, .inl (E.2 0, 512, .inl (fun _ => 0))), (q 52, .inl (E.2 0, 512, .inl (fun _ => 0))), (q 55, .inl (E.2 0, 4, .inl (fun _ => 0))), (q 47, .inl (E.2 0, 4, .inl fc)), (q 48, .inl (E.2 0, 4, .inl (fun _ => 0)))] sz) [] t) (va_A [(h0, .inr (12, mO q)), (q 51, .inl (E.2 0, 512, .inl (fun _ => 0))), (q 52, .inl (E.2 0, 512, .inl (fun _ => 0))), (q 55, .inl (E.2 0, 4, .inl (fun _ => 0))), (q 47, .inl (E.2 0, 4, .inl fc)), (q 48, .inl (E.2 0, 4, .inl (fun _ => 0)))] sz)) 0 0 (va_A [(h0, .inr (12, mO q)), (q 51, .inl (E.2 0, 512, .inl (fun _ => 0))), (q 52, .inl (E.2 0, 512, .inl (fun _ => 0))), (q 55, .inl (E.2 0, 4, .inl (fun _ => 0))), (q 47, .inl (E.2 0, 4, .inl fc)), (q 48, .inl (E.2 0, 4, .inl (fun _ => 0)))] sz) := by
  refine Met.ofW (cc := cX12_plan) (maxL := 2) (ret := (some .int)) (by decide) rfl ?_
  intro p e s m args below meth c s₁ B hml hv
  obtain ⟨rfl, hsz, hP, hkn, hD0, hst⟩ := hv
  have hx := B.exec
  have hb := B.bytes
  have hr := B.returns
  have hts := atoms_spec (ws := wsX12_plan) B.pre
  have hown : s.vm.findClass RX12 = some m.cls := findClass_of_methodNamed B.named
  have hlocks := B.notSynchronized
  subst hsz
  have hD := hD0.self (sz := s.heap.size)
  have hK := hkn.1
  have hAO := hkn.2.2
  generalize hAe : va_A [(h0, .inr (12, mO q)), (q 51, .inl (E.2 0, 512, .inl (fun _ => 0))), (q 52, .inl (E.2 0, 512, .inl (fun _ => 0))), (q 55, .inl (E.2 0, 4, .inl (fun _ => 0))), (q 47, .inl (E.2 0, 4, .inl fc)), (q 48, .inl (E.2 0, 4, .inl (fun _ => 0)))] s.heap.size = A at hD hst ⊢
  have hA : ∀ q : Nat, s.heap.size ≤ q → A q := fun q h => by rw [← hAe]; exact Or.inr h
  have hS : va_S A s.heap s.heap [] := va_S.rf
  have hP : va_P E.1 vwCl [(h0, .inr (12, mO q)), (q 51, .inl (E.2 0, 512, .inl (fun _ => 0))), (q 52, .inl (E.2 0, 512, .inl (fun _ => 0))), (q 55, .inl (E.2 0, 4, .inl (fun _ => 0))), (q 47, .inl (E.2 0, 4, .inl fc)), (q 48, .inl (E.2 0, 4, .inl (fun _ => 0)))] s.heap := hP
  have hl := lv_entry ([.ref h0]) (n := 2) (Nat.le_of_ble_eq_true rfl)
  rw [lg_entry_eq]
  generalize (lg_sl ([.ref h0]) ++ List.replicate (2 - (lg_sl ([.ref h0])).length) Slot.unset).toArray = ls at hl ⊢
  have hl : lv_has ls 2 [(0, .ref h0)] := hl
  have fl121 := hts (.fieldLink RX12 121 "BoatsHomeModel" "crewPort" "[I") (by decide +kernel)
  have fl124 := hts (.fieldLink RX12 124 "BoatsHomeModel" "crewDay" "[I") (by decide +kernel)
  have fl130 := hts (.fieldLink RX12 130 "BoatsHomeModel" "least" "[I") (by decide +kernel)
  have fl133 := hts (.fieldLink RX12 133 "BoatsHomeModel" "order" "[I") (by decide +kernel)
  have fl142 := hts (.fieldLink RX12 142 "BoatsHomeModel" "sets" "[I") (by decide +kernel)
  have fl145 := hts (.fieldLink RX12 145 "BoatsHomeModel" "beginsOn" "[I") (by decide +kernel)
  have fl289 := hts (.fieldLink RX12 289 "BoatsHomeModel" "deliveries" "I") (by decide +kernel)
  have fl292 := hts (.fieldLink RX12 292 "BoatsHomeModel" "isPlanned" "Z") (by decide +kernel)
  have fl300 := hts (.fieldLink RX12 300 "BoatsHomeModel" "bestDone" "I") (by decide +kernel)
  have fl303 := hts (.fieldLink RX12 303 "BoatsHomeModel" "bestCost" "I") (by decide +kernel)
  have inX12 : ∀ w ∈ u_ws RX12 TX12 59, w ∈ wsX12_plan := by decide +kernel
  refine lv_iconst (v := 0) hx hb dX12_plan_0 (by decide) ?_
  refine lv_istore_n (lv' := [(1, .int 0), (0, .ref h0)]) hx hb dX12_plan_1 rfl hl (by decide) rfl (fun ls hl => ?_)
  have hPl := hP.sub (ws' := [(h0, .inr (12, mO q)), (q 51, .inl (E.2 0, 512, .inl (fun _ => 0))), (q 52, .inl (E.2 0, 512, .inl (fun _ => 0))), (q 55, .inl (E.2 0, 4, .inl (fun _ => 0))), (q 47, .inl (E.2 0, 4, .inl fc)), (q 48, .inl (E.2 0, 4, .inl (fun _ => 0)))]) [0, 1, 2, 3, 4, 5] rfl
  have hDl := hD.sub (ws' := [(h0, .inr (12, mO q)), (q 51, .inl (E.2 0, 512, .inl (fun _ => 0))), (q 52, .inl (E.2 0, 512, .inl (fun _ => 0))), (q 55, .inl (E.2 0, 4, .inl (fun _ => 0))), (q 47, .inl (E.2 0, 4, .inl fc)), (q 48, .inl (E.2 0, 4, .inl (fun _ => 0)))]) [0, 1, 2, 3, 4, 5] (by decide) rfl
  refine lp_m_plan E h0 (q 51) (mO q) ([(q 52, .inl (E.2 0, 512, .inl (fun _ => 0))), (q 55, .inl (E.2 0, 4, .inl (fun _ => 0))), (q 47, .inl (E.2 0, 4, .inl fc)), (q 48, .inl (E.2 0, 4, .inl (fun _ => 0)))]) hx hb hml hown hts hkn hst hA rfl (fun fLL H locs ls hf hP hD hS hl => ?_) 513 0 (fun _ => 0) _ _ _ (by omega) (Nat.zero_le _) (fun k hk => absurd hk (Nat.not_lt_zero k)) hPl hDl hS (lv_sub hl [1, 0] rfl)
  have hP : va_P E.1 vwCl [(h0, .inr (12, mO q)), (q 51, .inl (E.2 0, 512, .inl fLL)), (q 52, .inl (E.2 0, 512, .inl (fun _ => 0))), (q 55, .inl (E.2 0, 4, .inl (fun _ => 0))), (q 47, .inl (E.2 0, 4, .inl fc)), (q 48, .inl (E.2 0, 4, .inl (fun _ => 0)))] H := hP
  have hD : va_D A [(h0, .inr (12, mO q)), (q 51, .inl (E.2 0, 512, .inl fLL)), (q 52, .inl (E.2 0, 512, .inl (fun _ => 0))), (q 55, .inl (E.2 0, 4, .inl (fun _ => 0))), (q 47, .inl (E.2 0, 4, .inl fc)), (q 48, .inl (E.2 0, 4, .inl (fun _ => 0)))] := hD
  have hLL := hf
  refine lv_iconst (v := 0) hx hb dX12_plan_34 (by decide) ?_
  refine lv_istore_n (lv' := [(1, .int 0), (0, .ref h0)]) hx hb dX12_plan_35 rfl hl (by decide) rfl (fun ls hl => ?_)
  refine lv_iload_n hx hb dX12_plan_36 rfl (lv_at hl 0 rfl) ?_
  refine lv_iconst (v := 4) hx hb dX12_plan_37 (by decide) ?_
  refine lv_icmp_ge (tgt := 95) hx hb dX12_plan_38 (by decide) (fun c9 => absurd c9 (by decide)) (fun _ => ?_)
  refine lv_aload_n hx hb dX12_plan_41 rfl (lv_at hl 1 rfl) ?_
  refine va_get (D := E.1) (ci := 12) (v := .ref (q 52)) (C := RX12) (T := TX12) (N := 59) hx hb hts inX12 hown hK hP 0 rfl rfl 52 (by decide) fl133 (fun _ h9 => h9) rfl dX12_plan_42 ?_
  refine lv_sipush (v := 128) hx hb dX12_plan_45 (by decide) ?_
  refine lv_iload_n hx hb dX12_plan_48 rfl (lv_at hl 0 rfl) ?_
  refine lv_imul hx hb dX12_plan_49 ?_
  refine lv_topi (fun x1 ex1 => ?_)
  obtain rfl : x1 = 0 := ex1.trans (by decide +kernel)
  refine lv_iconst (v := 0) hx hb dX12_plan_50 (by decide) ?_
  refine va_iast hx hb hK hP hD hS 2 0 rfl rfl (show vp_in 0 512 from by unfold vp_in; decide) dX12_plan_51 (fun H locs hP hD hS => ?_)
  have hP : va_P E.1 vwCl [(h0, .inr (12, mO q)), (q 51, .inl (E.2 0, 512, .inl fLL)), (q 52, .inl (E.2 0, 512, .inl (upd (fun _ => 0) (Int32.toNatClampNeg 0) 0))), (q 55, .inl (E.2 0, 4, .inl (fun _ => 0))), (q 47, .inl (E.2 0, 4, .inl fc)), (q 48, .inl (E.2 0, 4, .inl (fun _ => 0)))] H := hP
  have hD : va_D A [(h0, .inr (12, mO q)), (q 51, .inl (E.2 0, 512, .inl fLL)), (q 52, .inl (E.2 0, 512, .inl (upd (fun _ => 0) (Int32.toNatClampNeg 0) 0))), (q 55, .inl (E.2 0, 4, .inl (fun _ => 0))), (q 47, .inl (E.2 0, 4, .inl fc)), (q 48, .inl (E.2 0, 4, .inl (fun _ => 0)))] := hD
  rw [upd_same] at hP hD
  have hP : va_P E.1 vwCl [(h0, .inr (12, mO q)), (q 51, .inl (E.2 0, 512, .inl fLL)), (q 52, .inl (E.2 0, 512, .inl (fun _ => 0))), (q 55, .inl (E.2 0, 4, .inl (fun _ => 0))), (q 47, .inl (E.2 0, 4, .inl fc)), (q 48, .inl (E.2 0, 4, .inl (fun _ => 0)))] H := hP
  have hD : va_D A [(h0, .inr (12, mO q)), (q 51, .inl (E.2 0, 512, .inl fLL)), (q 52, .inl (E.2 0, 512, .inl (fun _ => 0))), (q 55, .inl (E.2 0, 4, .inl (fun _ => 0))), (q 47, .inl (E.2 0, 4, .inl fc)), (q 48, .inl (E.2 0, 4, .inl (fun _ => 0)))] := hD
  refine lv_aload_n hx hb dX12_plan_52 rfl (lv_at hl 1 rfl) ?_
  refine va_get (D := E.1) (ci := 12) (v := .ref (q 55)) (C := RX12) (T := TX12) (N := 59) hx hb hts inX12 hown hK hP 0 rfl rfl 55 (by decide) fl142 (fun _ h9 => h9) rfl dX12_plan_53 ?_
  refine lv_iload_n hx hb dX12_plan_56 rfl (lv_at hl 0 rfl) ?_
  refine lv_iconst (v := 0) hx hb dX12_plan_57 (by decide) ?_
  refine va_iast hx hb hK hP hD hS 3 0 rfl rfl (show vp_in 0 4 from by unfold vp_in; decide) dX12_plan_58 (fun H locs hP hD hS => ?_)
  have hP : va_P E.1 vwCl [(h0, .inr (12, mO q)), (q 51, .inl (E.2 0, 512, .inl fLL)), (q 52, .inl (E.2 0, 512, .inl (fun _ => 0))), (q 55, .inl (E.2 0, 4, .inl (upd (fun _ => 0) (Int32.toNatClampNeg 0) 0))), (q 47, .inl (E.2 0, 4, .inl fc)), (q 48, .inl (E.2 0, 4, .inl (fun _ => 0)))] H := hP
  have hD : va_D A [(h0, .inr (12, mO q)), (q 51, .inl (E.2 0, 512, .inl fLL)), (q 52, .inl (E.2 0, 512, .inl (fun _ => 0))), (q 55, .inl (E.2 0, 4, .inl (upd (fun _ => 0) (Int32.toNatClampNeg 0) 0))), (q 47, .inl (E.2 0, 4, .inl fc)), (q 48, .inl (E.2 0, 4, .inl (fun _ => 0)))] := hD
  rw [upd_same] at hP hD
  have hP : va_P E.1 vwCl [(h0, .inr (12, mO q)), (q 51, .inl (E.2 0, 512, .inl fLL)), (q 52, .inl (E.2 0, 512, .inl (fun _ => 0))), (q 55, .inl (E.2 0, 4, .inl (fun _ => 0))), (q 47, .inl (E.2 0, 4, .inl fc)), (q 48, .inl (E.2 0, 4, .inl (fun _ => 0)))] H := hP
  have hD : va_D A [(h0, .inr (12, mO q)), (q 51, .inl (E.2 0, 512, .inl fLL)), (q 52, .inl (E.2 0, 512, .inl (fun _ => 0))), (q 55, .inl (E.2 0, 4, .inl (fun _ => 0))), (q 47, .inl (E.2 0, 4, .inl fc)), (q 48, .inl (E.2 0, 4, .inl (fun _ => 0)))] := hD
  refine lv_aload_n hx hb dX12_plan_59 rfl (lv_at hl 1 rfl) ?_
  refine va_get (D := E.1) (ci := 12) (v := .ref (q 47)) (C := RX12) (T := TX12) (N := 59) hx hb hts inX12 hown hK hP 0 rfl rfl 47 (by decide) fl121 (fun _ h9 => h9) rfl dX12_plan_60 ?_
  refine lv_iload_n hx hb dX12_plan_63 rfl (lv_at hl 0 rfl) ?_
  refine va_iald hx hb hK hP 4 0 rfl rfl (show vp_in 0 4 from by unfold vp_in; decide) dX12_plan_64 ?_
  refine lv_topi (fun x4 ex4 => ?_)
  obtain rfl : x4 = -1 := ex4.trans (hfc 0 (by decide))
  refine lv_iconst (v := (-1)) hx hb dX12_plan_65 (by decide) ?_
  refine lv_icmp_eq (tgt := 89) hx hb dX12_plan_66 (by decide) (fun _ => ?_) (fun c9 => absurd c9 (by decide))
  refine lv_iinc (v := 1) (lv' := [(1, .int 1), (0, .ref h0)]) hx hb dX12_plan_89 hl (k := 0) rfl (by decide) (by decide) rfl (fun ls hl => ?_)
  refine lv_goto (tgt := 36) hx hb dX12_plan_92 (by decide) ?_
  refine lv_iload_n hx hb dX12_plan_36 rfl (lv_at hl 0 rfl) ?_
  refine lv_iconst (v := 4) hx hb dX12_plan_37 (by decide) ?_
  refine lv_icmp_ge (tgt := 95) hx hb dX12_plan_38 (by decide) (fun c9 => absurd c9 (by decide)) (fun _ => ?_)
  refine lv_aload_n hx hb dX12_plan_41 rfl (lv_at hl 1 rfl) ?_
  refine va_get (D := E.1) (ci := 12) (v := .ref (q 52)) (C := RX12) (T := TX12) (N := 59) hx hb hts inX12 hown hK hP 0 rfl rfl 52 (by decide) fl133 (fun _ h9 => h9) rfl dX12_plan_42 ?_
  refine lv_sipush (v := 128) hx hb dX12_plan_45 (by decide) ?_
  refine lv_iload_n hx hb dX12_plan_48 rfl (lv_at hl 0 rfl) ?_
  refine lv_imul hx hb dX12_plan_49 ?_
  refine lv_topi (fun x5 ex5 => ?_)
  obtain rfl : x5 = 128 := ex5.trans (by decide +kernel)
  refine lv_iconst (v := 0) hx hb dX12_plan_50 (by decide) ?_
  refine va_iast hx hb hK hP hD hS 2 0 rfl rfl (show vp_in 128 512 from by unfold vp_in; decide) dX12_plan_51 (fun H locs hP hD hS => ?_)
  have hP : va_P E.1 vwCl [(h0, .inr (12, mO q)), (q 51, .inl (E.2 0, 512, .inl fLL)), (q 52, .inl (E.2 0, 512, .inl (upd (fun _ => 0) (Int32.toNatClampNeg 128) 0))), (q 55, .inl (E.2 0, 4, .inl (fun _ => 0))), (q 47, .inl (E.2 0, 4, .inl fc)), (q 48, .inl (E.2 0, 4, .inl (fun _ => 0)))] H := hP
  have hD : va_D A [(h0, .inr (12, mO q)), (q 51, .inl (E.2 0, 512, .inl fLL)), (q 52, .inl (E.2 0, 512, .inl (upd (fun _ => 0) (Int32.toNatClampNeg 128) 0))), (q 55, .inl (E.2 0, 4, .inl (fun _ => 0))), (q 47, .inl (E.2 0, 4, .inl fc)), (q 48, .inl (E.2 0, 4, .inl (fun _ => 0)))] := hD
  rw [upd_same] at hP hD
  have hP : va_P E.1 vwCl [(h0, .inr (12, mO q)), (q 51, .inl (E.2 0, 512, .inl fLL)), (q 52, .inl (E.2 0, 512, .inl (fun _ => 0))), (q 55, .inl (E.2 0, 4, .inl (fun _ => 0))), (q 47, .inl (E.2 0, 4, .inl fc)), (q 48, .inl (E.2 0, 4, .inl (fun _ => 0)))] H := hP
  have hD : va_D A [(h0, .inr (12, mO q)), (q 51, .inl (E.2 0, 512, .inl fLL)), (q 52, .inl (E.2 0, 512, .inl (fun _ => 0))), (q 55, .inl (E.2 0, 4, .inl (fun _ => 0))), (q 47, .inl (E.2 0, 4, .inl fc)), (q 48, .inl (E.2 0, 4, .inl (fun _ => 0)))] := hD
  refine lv_aload_n hx hb dX12_plan_52 rfl (lv_at hl 1 rfl) ?_
  refine va_get (D := E.1) (ci := 12) (v := .ref (q 55)) (C := RX12) (T := TX12) (N := 59) hx hb hts inX12 hown hK hP 0 rfl rfl 55 (by decide) fl142 (fun _ h9 => h9) rfl dX12_plan_53 ?_
  refine lv_iload_n hx hb dX12_plan_56 rfl (lv_at hl 0 rfl) ?_
  refine lv_iconst (v := 0) hx hb dX12_plan_57 (by decide) ?_
  refine va_iast hx hb hK hP hD hS 3 0 rfl rfl (show vp_in 1 4 from by unfold vp_in; decide) dX12_plan_58 (fun H locs hP hD hS => ?_)
  have hP : va_P E.1 vwCl [(h0, .inr (12, mO q)), (q 51, .inl (E.2 0, 512, .inl fLL)), (q 52, .inl (E.2 0, 512, .inl (fun _ => 0))), (q 55, .inl (E.2 0, 4, .inl (upd (fun _ => 0) (Int32.toNatClampNeg 1) 0))), (q 47, .inl (E.2 0, 4, .inl fc)), (q 48, .inl (E.2 0, 4, .inl (fun _ => 0)))] H := hP
  have hD : va_D A [(h0, .inr (12, mO q)), (q 51, .inl (E.2 0, 512, .inl fLL)), (q 52, .inl (E.2 0, 512, .inl (fun _ => 0))), (q 55, .inl (E.2 0, 4, .inl (upd (fun _ => 0) (Int32.toNatClampNeg 1) 0))), (q 47, .inl (E.2 0, 4, .inl fc)), (q 48, .inl (E.2 0, 4, .inl (fun _ => 0)))] := hD
  rw [upd_same] at hP hD
  have hP : va_P E.1 vwCl [(h0, .inr (12, mO q)), (q 51, .inl (E.2 0, 512, .inl fLL)), (q 52, .inl (E.2 0, 512, .inl (fun _ => 0))), (q 55, .inl (E.2 0, 4, .inl (fun _ => 0))), (q 47, .inl (E.2 0, 4, .inl fc)), (q 48, .inl (E.2 0, 4, .inl (fun _ => 0)))] H := hP
  have hD : va_D A [(h0, .inr (12, mO q)), (q 51, .inl (E.2 0, 512, .inl fLL)), (q 52, .inl (E.2 0, 512, .inl (fun _ => 0))), (q 55, .inl (E.2 0, 4, .inl (fun _ => 0))), (q 47, .inl (E.2 0, 4, .inl fc)), (q 48, .inl (E.2 0, 4, .inl (fun _ => 0)))] := hD
  refine lv_aload_n hx hb dX12_plan_59 rfl (lv_at hl 1 rfl) ?_
  refine va_get (D := E.1) (ci := 12) (v := .ref (q 47)) (C := RX12) (T := TX12) (N := 59) hx hb hts inX12 hown hK hP 0 rfl rfl 47 (by decide) fl121 (fun _ h9 => h9) rfl dX12_plan_60 ?_
  refine lv_iload_n hx hb dX12_plan_63 rfl (lv_at hl 0 rfl) ?_
  refine va_iald hx hb hK hP 4 0 rfl rfl (show vp_in 1 4 from by unfold vp_in; decide) dX12_plan_64 ?_
  refine lv_topi (fun x8 ex8 => ?_)
  obtain rfl : x8 = -1 := ex8.trans (hfc 1 (by decide))
  refine lv_iconst (v := (-1)) hx hb dX12_plan_65 (by decide) ?_
  refine lv_icmp_eq (tgt := 89) hx hb dX12_plan_66 (by decide) (fun _ => ?_) (fun c9 => absurd c9 (by decide))
  refine lv_iinc (v := 2) (lv' := [(1, .int 2), (0, .ref h0)]) hx hb dX12_plan_89 hl (k := 0) rfl (by decide) (by decide) rfl (fun ls hl => ?_)
  refine lv_goto (tgt := 36) hx hb dX12_plan_92 (by decide) ?_
  refine lv_iload_n hx hb dX12_plan_36 rfl (lv_at hl 0 rfl) ?_
  refine lv_iconst (v := 4) hx hb dX12_plan_37 (by decide) ?_
  refine lv_icmp_ge (tgt := 95) hx hb dX12_plan_38 (by decide) (fun c9 => absurd c9 (by decide)) (fun _ => ?_)
  refine lv_aload_n hx hb dX12_plan_41 rfl (lv_at hl 1 rfl) ?_
  refine va_get (D := E.1) (ci := 12) (v := .ref (q 52)) (C := RX12) (T := TX12) (N := 59) hx hb hts inX12 hown hK hP 0 rfl rfl 52 (by decide) fl133 (fun _ h9 => h9) rfl dX12_plan_42 ?_
  refine lv_sipush (v := 128) hx hb dX12_plan_45 (by decide) ?_
  refine lv_iload_n hx hb dX12_plan_48 rfl (lv_at hl 0 rfl) ?_
  refine lv_imul hx hb dX12_plan_49 ?_
  refine lv_topi (fun x9 ex9 => ?_)
  obtain rfl : x9 = 256 := ex9.trans (by decide +kernel)
  refine lv_iconst (v := 0) hx hb dX12_plan_50 (by decide) ?_
  refine va_iast hx hb hK hP hD hS 2 0 rfl rfl (show vp_in 256 512 from by unfold vp_in; decide) dX12_plan_51 (fun H locs hP hD hS => ?_)
  have hP : va_P E.1 vwCl [(h0, .inr (12, mO q)), (q 51, .inl (E.2 0, 512, .inl fLL)), (q 52, .inl (E.2 0, 512, .inl (upd (fun _ => 0) (Int32.toNatClampNeg 256) 0))), (q 55, .inl (E.2 0, 4, .inl (fun _ => 0))), (q 47, .inl (E.2 0, 4, .inl fc)), (q 48, .inl (E.2 0, 4, .inl (fun _ => 0)))] H := hP
  have hD : va_D A [(h0, .inr (12, mO q)), (q 51, .inl (E.2 0, 512, .inl fLL)), (q 52, .inl (E.2 0, 512, .inl (upd (fun _ => 0) (Int32.toNatClampNeg 256) 0))), (q 55, .inl (E.2 0, 4, .inl (fun _ => 0))), (q 47, .inl (E.2 0, 4, .inl fc)), (q 48, .inl (E.2 0, 4, .inl (fun _ => 0)))] := hD
  rw [upd_same] at hP hD
  have hP : va_P E.1 vwCl [(h0, .inr (12, mO q)), (q 51, .inl (E.2 0, 512, .inl fLL)), (q 52, .inl (E.2 0, 512, .inl (fun _ => 0))), (q 55, .inl (E.2 0, 4, .inl (fun _ => 0))), (q 47, .inl (E.2 0, 4, .inl fc)), (q 48, .inl (E.2 0, 4, .inl (fun _ => 0)))] H := hP
  have hD : va_D A [(h0, .inr (12, mO q)), (q 51, .inl (E.2 0, 512, .inl fLL)), (q 52, .inl (E.2 0, 512, .inl (fun _ => 0))), (q 55, .inl (E.2 0, 4, .inl (fun _ => 0))), (q 47, .inl (E.2 0, 4, .inl fc)), (q 48, .inl (E.2 0, 4, .inl (fun _ => 0)))] := hD
  refine lv_aload_n hx hb dX12_plan_52 rfl (lv_at hl 1 rfl) ?_
  refine va_get (D := E.1) (ci := 12) (v := .ref (q 55)) (C := RX12) (T := TX12) (N := 59) hx hb hts inX12 hown hK hP 0 rfl rfl 55 (by decide) fl142 (fun _ h9 => h9) rfl dX12_plan_53 ?_
  refine lv_iload_n hx hb dX12_plan_56 rfl (lv_at hl 0 rfl) ?_
  refine lv_iconst (v := 0) hx hb dX12_plan_57 (by decide) ?_
  refine va_iast hx hb hK hP hD hS 3 0 rfl rfl (show vp_in 2 4 from by unfold vp_in; decide) dX12_plan_58 (fun H locs hP hD hS => ?_)
  have hP : va_P E.1 vwCl [(h0, .inr (12, mO q)), (q 51, .inl (E.2 0, 512, .inl fLL)), (q 52, .inl (E.2 0, 512, .inl (fun _ => 0))), (q 55, .inl (E.2 0, 4, .inl (upd (fun _ => 0) (Int32.toNatClampNeg 2) 0))), (q 47, .inl (E.2 0, 4, .inl fc)), (q 48, .inl (E.2 0, 4, .inl (fun _ => 0)))] H := hP
  have hD : va_D A [(h0, .inr (12, mO q)), (q 51, .inl (E.2 0, 512, .inl fLL)), (q 52, .inl (E.2 0, 512, .inl (fun _ => 0))), (q 55, .inl (E.2 0, 4, .inl (upd (fun _ => 0) (Int32.toNatClampNeg 2) 0))), (q 47, .inl (E.2 0, 4, .inl fc)), (q 48, .inl (E.2 0, 4, .inl (fun _ => 0)))] := hD
  rw [upd_same] at hP hD
  have hP : va_P E.1 vwCl [(h0, .inr (12, mO q)), (q 51, .inl (E.2 0, 512, .inl fLL)), (q 52, .inl (E.2 0, 512, .inl (fun _ => 0))), (q 55, .inl (E.2 0, 4, .inl (fun _ => 0))), (q 47, .inl (E.2 0, 4, .inl fc)), (q 48, .inl (E.2 0, 4, .inl (fun _ => 0)))] H := hP
  have hD : va_D A [(h0, .inr (12, mO q)), (q 51, .inl (E.2 0, 512, .inl fLL)), (q 52, .inl (E.2 0, 512, .inl (fun _ => 0))), (q 55, .inl (E.2 0, 4, .inl (fun _ => 0))), (q 47, .inl (E.2 0, 4, .inl fc)), (q 48, .inl (E.2 0, 4, .inl (fun _ => 0)))] := hD
  refine lv_aload_n hx hb dX12_plan_59 rfl (lv_at hl 1 rfl) ?_
  refine va_get (D := E.1) (ci := 12) (v := .ref (q 47)) (C := RX12) (T := TX12) (N := 59) hx hb hts inX12 hown hK hP 0 rfl rfl 47 (by decide) fl121 (fun _ h9 => h9) rfl dX12_plan_60 ?_
  refine lv_iload_n hx hb dX12_plan_63 rfl (lv_at hl 0 rfl) ?_
  refine va_iald hx hb hK hP 4 0 rfl rfl (show vp_in 2 4 from by unfold vp_in; decide) dX12_plan_64 ?_
  refine lv_topi (fun x12 ex12 => ?_)
  obtain rfl : x12 = -1 := ex12.trans (hfc 2 (by decide))
  refine lv_iconst (v := (-1)) hx hb dX12_plan_65 (by decide) ?_
  refine lv_icmp_eq (tgt := 89) hx hb dX12_plan_66 (by decide) (fun _ => ?_) (fun c9 => absurd c9 (by decide))
  refine lv_iinc (v := 3) (lv' := [(1, .int 3), (0, .ref h0)]) hx hb dX12_plan_89 hl (k := 0) rfl (by decide) (by decide) rfl (fun ls hl => ?_)
  refine lv_goto (tgt := 36) hx hb dX12_plan_92 (by decide) ?_
  refine lv_iload_n hx hb dX12_plan_36 rfl (lv_at hl 0 rfl) ?_
  refine lv_iconst (v := 4) hx hb dX12_plan_37 (by decide) ?_
  refine lv_icmp_ge (tgt := 95) hx hb dX12_plan_38 (by decide) (fun c9 => absurd c9 (by decide)) (fun _ => ?_)
  refine lv_aload_n hx hb dX12_plan_41 rfl (lv_at hl 1 rfl) ?_
  refine va_get (D := E.1) (ci := 12) (v := .ref (q 52)) (C := RX12) (T := TX12) (N := 59) hx hb hts inX12 hown hK hP 0 rfl rfl 52 (by decide) fl133 (fun _ h9 => h9) rfl dX12_plan_42 ?_
  refine lv_sipush (v := 128) hx hb dX12_plan_45 (by decide) ?_
  refine lv_iload_n hx hb dX12_plan_48 rfl (lv_at hl 0 rfl) ?_
  refine lv_imul hx hb dX12_plan_49 ?_
  refine lv_topi (fun x13 ex13 => ?_)
  obtain rfl : x13 = 384 := ex13.trans (by decide +kernel)
  refine lv_iconst (v := 0) hx hb dX12_plan_50 (by decide) ?_
  refine va_iast hx hb hK hP hD hS 2 0 rfl rfl (show vp_in 384 512 from by unfold vp_in; decide) dX12_plan_51 (fun H locs hP hD hS => ?_)
  have hP : va_P E.1 vwCl [(h0, .inr (12, mO q)), (q 51, .inl (E.2 0, 512, .inl fLL)), (q 52, .inl (E.2 0, 512, .inl (upd (fun _ => 0) (Int32.toNatClampNeg 384) 0))), (q 55, .inl (E.2 0, 4, .inl (fun _ => 0))), (q 47, .inl (E.2 0, 4, .inl fc)), (q 48, .inl (E.2 0, 4, .inl (fun _ => 0)))] H := hP
  have hD : va_D A [(h0, .inr (12, mO q)), (q 51, .inl (E.2 0, 512, .inl fLL)), (q 52, .inl (E.2 0, 512, .inl (upd (fun _ => 0) (Int32.toNatClampNeg 384) 0))), (q 55, .inl (E.2 0, 4, .inl (fun _ => 0))), (q 47, .inl (E.2 0, 4, .inl fc)), (q 48, .inl (E.2 0, 4, .inl (fun _ => 0)))] := hD
  rw [upd_same] at hP hD
  have hP : va_P E.1 vwCl [(h0, .inr (12, mO q)), (q 51, .inl (E.2 0, 512, .inl fLL)), (q 52, .inl (E.2 0, 512, .inl (fun _ => 0))), (q 55, .inl (E.2 0, 4, .inl (fun _ => 0))), (q 47, .inl (E.2 0, 4, .inl fc)), (q 48, .inl (E.2 0, 4, .inl (fun _ => 0)))] H := hP
  have hD : va_D A [(h0, .inr (12, mO q)), (q 51, .inl (E.2 0, 512, .inl fLL)), (q 52, .inl (E.2 0, 512, .inl (fun _ => 0))), (q 55, .inl (E.2 0, 4, .inl (fun _ => 0))), (q 47, .inl (E.2 0, 4, .inl fc)), (q 48, .inl (E.2 0, 4, .inl (fun _ => 0)))] := hD
  refine lv_aload_n hx hb dX12_plan_52 rfl (lv_at hl 1 rfl) ?_
  refine va_get (D := E.1) (ci := 12) (v := .ref (q 55)) (C := RX12) (T := TX12) (N := 59) hx hb hts inX12 hown hK hP 0 rfl rfl 55 (by decide) fl142 (fun _ h9 => h9) rfl dX12_plan_53 ?_
  refine lv_iload_n hx hb dX12_plan_56 rfl (lv_at hl 0 rfl) ?_
  refine lv_iconst (v := 0) hx hb dX12_plan_57 (by decide) ?_
  refine va_iast hx hb hK hP hD hS 3 0 rfl rfl (show vp_in 3 4 from by unfold vp_in; decide) dX12_plan_58 (fun H locs hP hD hS => ?_)
  have hP : va_P E.1 vwCl [(h0, .inr (12, mO q)), (q 51, .inl (E.2 0, 512, .inl fLL)), (q 52, .inl (E.2 0, 512, .inl (fun _ => 0))), (q 55, .inl (E.2 0, 4, .inl (upd (fun _ => 0) (Int32.toNatClampNeg 3) 0))), (q 47, .inl (E.2 0, 4, .inl fc)), (q 48, .inl (E.2 0, 4, .inl (fun _ => 0)))] H := hP
  have hD : va_D A [(h0, .inr (12, mO q)), (q 51, .inl (E.2 0, 512, .inl fLL)), (q 52, .inl (E.2 0, 512, .inl (fun _ => 0))), (q 55, .inl (E.2 0, 4, .inl (upd (fun _ => 0) (Int32.toNatClampNeg 3) 0))), (q 47, .inl (E.2 0, 4, .inl fc)), (q 48, .inl (E.2 0, 4, .inl (fun _ => 0)))] := hD
  rw [upd_same] at hP hD
  have hP : va_P E.1 vwCl [(h0, .inr (12, mO q)), (q 51, .inl (E.2 0, 512, .inl fLL)), (q 52, .inl (E.2 0, 512, .inl (fun _ => 0))), (q 55, .inl (E.2 0, 4, .inl (fun _ => 0))), (q 47, .inl (E.2 0, 4, .inl fc)), (q 48, .inl (E.2 0, 4, .inl (fun _ => 0)))] H := hP
  have hD : va_D A [(h0, .inr (12, mO q)), (q 51, .inl (E.2 0, 512, .inl fLL)), (q 52, .inl (E.2 0, 512, .inl (fun _ => 0))), (q 55, .inl (E.2 0, 4, .inl (fun _ => 0))), (q 47, .inl (E.2 0, 4, .inl fc)), (q 48, .inl (E.2 0, 4, .inl (fun _ => 0)))] := hD
  refine lv_aload_n hx hb dX12_plan_59 rfl (lv_at hl 1 rfl) ?_
  refine va_get (D := E.1) (ci := 12) (v := .ref (q 47)) (C := RX12) (T := TX12) (N := 59) hx hb hts inX12 hown hK hP 0 rfl rfl 47 (by decide) fl121 (fun _ h9 => h9) rfl dX12_plan_60 ?_
  refine lv_iload_n hx hb dX12_plan_63 rfl (lv_at hl 0 rfl) ?_
  refine va_iald hx hb hK hP 4 0 rfl rfl (show vp_in 3 4 from by unfold vp_in; decide) dX12_plan_64 ?_
  refine lv_topi (fun x16 ex16 => ?_)
  obtain rfl : x16 = -1 := ex16.trans (hfc 3 (by decide))
  refine lv_iconst (v := (-1)) hx hb dX12_plan_65 (by decide) ?_
  refine lv_icmp_eq (tgt := 89) hx hb dX12_plan_66 (by decide) (fun _ => ?_) (fun c9 => absurd c9 (by decide))
  refine lv_iinc (v := 4) (lv' := [(1, .int 4), (0, .ref h0)]) hx hb dX12_plan_89 hl (k := 0) rfl (by decide) (by decide) rfl (fun ls hl => ?_)
  refine lv_goto (tgt := 36) hx hb dX12_plan_92 (by decide) ?_
  refine lv_iload_n hx hb dX12_plan_36 rfl (lv_at hl 0 rfl) ?_
  refine lv_iconst (v := 4) hx hb dX12_plan_37 (by decide) ?_
  refine lv_icmp_ge (tgt := 95) hx hb dX12_plan_38 (by decide) (fun _ => ?_) (fun c9 => absurd c9 (by decide))
  refine lv_aload_n hx hb dX12_plan_95 rfl (lv_at hl 1 rfl) ?_
  refine lv_iconst (v := (-1)) hx hb dX12_plan_96 (by decide) ?_
  refine va_put (D := E.1) (ci := 12) (v := .int (-1)) (ty := .int) (C := RX12) (T := TX12) (N := 59) hx hb hts inX12 tyX12 tyX12_ok nmX12 hown hK hP hD hS 0 rfl rfl 57 (by decide) fl300 (fun _ h9 => h9) rfl (by decide +kernel) rfl rfl (Nat.le_of_ble_eq_true rfl) dX12_plan_97 (fun H locs hP hD hS => ?_)
  have hP : va_P E.1 vwCl [(h0, .inr (12, (mO q).set 57 (.int (-1)))), (q 51, .inl (E.2 0, 512, .inl fLL)), (q 52, .inl (E.2 0, 512, .inl (fun _ => 0))), (q 55, .inl (E.2 0, 4, .inl (fun _ => 0))), (q 47, .inl (E.2 0, 4, .inl fc)), (q 48, .inl (E.2 0, 4, .inl (fun _ => 0)))] H := hP
  have hD : va_D A [(h0, .inr (12, (mO q).set 57 (.int (-1)))), (q 51, .inl (E.2 0, 512, .inl fLL)), (q 52, .inl (E.2 0, 512, .inl (fun _ => 0))), (q 55, .inl (E.2 0, 4, .inl (fun _ => 0))), (q 47, .inl (E.2 0, 4, .inl fc)), (q 48, .inl (E.2 0, 4, .inl (fun _ => 0)))] := hD
  refine lv_aload_n hx hb dX12_plan_100 rfl (lv_at hl 1 rfl) ?_
  refine lv_iconst (v := 0) hx hb dX12_plan_101 (by decide) ?_
  refine va_put (D := E.1) (ci := 12) (v := .int 0) (ty := .int) (C := RX12) (T := TX12) (N := 59) hx hb hts inX12 tyX12 tyX12_ok nmX12 hown hK hP hD hS 0 rfl rfl 58 (by decide) fl303 (fun _ h9 => h9) rfl (by decide +kernel) rfl rfl (Nat.le_of_ble_eq_true rfl) dX12_plan_102 (fun H locs hP hD hS => ?_)
  have hP : va_P E.1 vwCl [(h0, .inr (12, (mO q).set 57 (.int (-1)))), (q 51, .inl (E.2 0, 512, .inl fLL)), (q 52, .inl (E.2 0, 512, .inl (fun _ => 0))), (q 55, .inl (E.2 0, 4, .inl (fun _ => 0))), (q 47, .inl (E.2 0, 4, .inl fc)), (q 48, .inl (E.2 0, 4, .inl (fun _ => 0)))] H := hP
  have hD : va_D A [(h0, .inr (12, (mO q).set 57 (.int (-1)))), (q 51, .inl (E.2 0, 512, .inl fLL)), (q 52, .inl (E.2 0, 512, .inl (fun _ => 0))), (q 55, .inl (E.2 0, 4, .inl (fun _ => 0))), (q 47, .inl (E.2 0, 4, .inl fc)), (q 48, .inl (E.2 0, 4, .inl (fun _ => 0)))] := hD
  refine lv_aload_n hx hb dX12_plan_105 rfl (lv_at hl 1 rfl) ?_
  refine lv_iconst (v := 0) hx hb dX12_plan_106 (by decide) ?_
  have hPc := hP.sub (ws' := [(h0, .inr (12, (mO q).set 57 (.int (-1)))), (q 51, .inl (E.2 0, 512, .inl fLL)), (q 55, .inl (E.2 0, 4, .inl (fun _ => 0)))]) [0, 1, 3] rfl
  have hDc := hD.sub (ws' := [(h0, .inr (12, (mO q).set 57 (.int (-1)))), (q 51, .inl (E.2 0, 512, .inl fLL)), (q 55, .inl (E.2 0, 4, .inl (fun _ => 0)))]) [0, 1, 3] (by decide) rfl
  have hFc := va_free (wc := [(h0, .inr (12, (mO q).set 57 (.int (-1)))), (q 51, .inl (E.2 0, 512, .inl fLL)), (q 55, .inl (E.2 0, 4, .inl (fun _ => 0)))]) hD hS hA [0, 1, 3] rfl
  refine va_callv (va_runV (As := [.int 0]) (rest := []) ⟨hx, hb, hml, hown, hts⟩ (c_X12_give l E h0 q fLL H.size hLL) (cwV 1 hts gX12_plan_X12_give rfl rfl rfl (by decide +kernel) ⟨Nat.le_of_ble_eq_true rfl, Nat.le_of_ble_eq_true rfl⟩) ⟨pcW_blind, va_recv hK hPc (ci := 12) (q0 := 0) rfl rfl, (pcW_pre hPc hkn hDc hst hS hFc)⟩ rfl rfl hl.1 rfl (lv_room (Nat.le_of_ble_eq_true rfl)) dX12_plan_107 ⟨Nat.le_of_ble_eq_true rfl, Nat.le_of_ble_eq_true rfl⟩) hS (fun q _ h => hFc q h) hFc (fun u t H1 locs ht hvm hw18 hB hz1 hk1 hS => ?_)
  obtain ⟨hP1, hD1⟩ := hB
  rw [ht] at hP1
  try dsimp only at hw18
  obtain ⟨hP, hD⟩ := va_join (wr := [(q 52, .inl (E.2 0, 512, .inl (fun _ => 0))), (q 47, .inl (E.2 0, 4, .inl fc)), (q 48, .inl (E.2 0, 4, .inl (fun _ => 0)))]) (w1 := [(h0, .inr (12, mO q)), (q 51, .inl (E.2 0, 512, .inl fLL)), (q 55, .inl (E.2 0, 4, .inl (fun _ => 0)))]) hP hD [0, 1, 3] [2, 4, 5] rfl rfl (by decide) (by decide) hk1 hFc hP1 hD1
  generalize H1 = H at hP hS ⊢
  have hP : va_P E.1 vwCl [(q 52, .inl (E.2 0, 512, .inl (fun _ => 0))), (q 47, .inl (E.2 0, 4, .inl fc)), (q 48, .inl (E.2 0, 4, .inl (fun _ => 0))), (h0, .inr (12, mO q)), (q 51, .inl (E.2 0, 512, .inl fLL)), (q 55, .inl (E.2 0, 4, .inl (fun _ => 0)))] H := hP
  have hD : va_D A [(q 52, .inl (E.2 0, 512, .inl (fun _ => 0))), (q 47, .inl (E.2 0, 4, .inl fc)), (q 48, .inl (E.2 0, 4, .inl (fun _ => 0))), (h0, .inr (12, mO q)), (q 51, .inl (E.2 0, 512, .inl fLL)), (q 55, .inl (E.2 0, 4, .inl (fun _ => 0)))] := hD
  refine lv_iconst (v := 0) hx hb dX12_plan_110 (by decide) ?_
  refine lv_istore_n (lv' := [(1, .int 0), (0, .ref h0)]) hx hb dX12_plan_111 rfl hl (by decide) rfl (fun ls hl => ?_)
  refine lv_iload_n hx hb dX12_plan_112 rfl (lv_at hl 0 rfl) ?_
  refine lv_aload_n hx hb dX12_plan_113 rfl (lv_at hl 1 rfl) ?_
  refine va_get (D := E.1) (ci := 12) (v := .int 0) (C := RX12) (T := TX12) (N := 59) hx hb hts inX12 hown hK hP 3 rfl rfl 41 (by decide) fl289 (fun _ h9 => h9) rfl dX12_plan_114 ?_
  refine lv_icmp_ge (tgt := 133) hx hb dX12_plan_117 (by decide) (fun _ => ?_) (fun c9 => absurd c9 (by decide))
  refine lv_iconst (v := 0) hx hb dX12_plan_133 (by decide) ?_
  refine lv_istore_n (lv' := [(1, .int 0), (0, .ref h0)]) hx hb dX12_plan_134 rfl hl (by decide) rfl (fun ls hl => ?_)
  refine lv_iload_n hx hb dX12_plan_135 rfl (lv_at hl 0 rfl) ?_
  refine lv_iconst (v := 4) hx hb dX12_plan_136 (by decide) ?_
  refine lv_icmp_ge (tgt := 151) hx hb dX12_plan_137 (by decide) (fun c9 => absurd c9 (by decide)) (fun _ => ?_)
  refine lv_aload_n hx hb dX12_plan_140 rfl (lv_at hl 1 rfl) ?_
  refine lv_iload_n hx hb dX12_plan_141 rfl (lv_at hl 0 rfl) ?_
  have hPc := hP.sub (ws' := [(h0, .inr (12, mO q)), (q 52, .inl (E.2 0, 512, .inl (fun _ => 0))), (q 47, .inl (E.2 0, 4, .inl fc)), (q 48, .inl (E.2 0, 4, .inl (fun _ => 0)))]) [3, 0, 1, 2] rfl
  have hDc := hD.sub (ws' := [(h0, .inr (12, mO q)), (q 52, .inl (E.2 0, 512, .inl (fun _ => 0))), (q 47, .inl (E.2 0, 4, .inl fc)), (q 48, .inl (E.2 0, 4, .inl (fun _ => 0)))]) [3, 0, 1, 2] (by decide) rfl
  have hFc := va_free (wc := [(h0, .inr (12, mO q)), (q 52, .inl (E.2 0, 512, .inl (fun _ => 0))), (q 47, .inl (E.2 0, 4, .inl fc)), (q 48, .inl (E.2 0, 4, .inl (fun _ => 0)))]) hD hS hA [3, 0, 1, 2] rfl
  refine va_callv (va_runV (As := [.int 0]) (rest := []) ⟨hx, hb, hml, hown, hts⟩ (c_X12_goes0 l E h0 q fc H.size hfc) (cwV 1 hts gX12_plan_X12_goes rfl rfl rfl (by decide +kernel) ⟨Nat.le_of_ble_eq_true rfl, Nat.le_of_ble_eq_true rfl⟩) ⟨pcW_blind, va_recv hK hPc (ci := 12) (q0 := 0) rfl rfl, (pcW_pre hPc hkn hDc hst hS hFc)⟩ rfl rfl hl.1 rfl (lv_room (Nat.le_of_ble_eq_true rfl)) dX12_plan_142 ⟨Nat.le_of_ble_eq_true rfl, Nat.le_of_ble_eq_true rfl⟩) hS (fun q _ h => hFc q h) hFc (fun u t H1 locs ht hvm hw20 hB hz1 hk1 hS => ?_)
  obtain ⟨hP1, hD1⟩ := hB
  rw [ht] at hP1
  try dsimp only at hw20
  obtain ⟨hP, hD⟩ := va_join (wr := [(q 51, .inl (E.2 0, 512, .inl fLL)), (q 55, .inl (E.2 0, 4, .inl (fun _ => 0)))]) (w1 := [(h0, .inr (12, mO q)), (q 52, .inl (E.2 0, 512, .inl (fun _ => 0))), (q 47, .inl (E.2 0, 4, .inl fc)), (q 48, .inl (E.2 0, 4, .inl (fun _ => 0)))]) hP hD [3, 0, 1, 2] [4, 5] rfl rfl (by decide) (by decide) hk1 hFc hP1 hD1
  generalize H1 = H at hP hS ⊢
  have hP : va_P E.1 vwCl [(q 51, .inl (E.2 0, 512, .inl fLL)), (q 55, .inl (E.2 0, 4, .inl (fun _ => 0))), (h0, .inr (12, mO q)), (q 52, .inl (E.2 0, 512, .inl (fun _ => 0))), (q 47, .inl (E.2 0, 4, .inl fc)), (q 48, .inl (E.2 0, 4, .inl (fun _ => 0)))] H := hP
  have hD : va_D A [(q 51, .inl (E.2 0, 512, .inl fLL)), (q 55, .inl (E.2 0, 4, .inl (fun _ => 0))), (h0, .inr (12, mO q)), (q 52, .inl (E.2 0, 512, .inl (fun _ => 0))), (q 47, .inl (E.2 0, 4, .inl fc)), (q 48, .inl (E.2 0, 4, .inl (fun _ => 0)))] := hD
  refine lv_iinc (v := 1) (lv' := [(1, .int 1), (0, .ref h0)]) hx hb dX12_plan_145 hl (k := 0) rfl (by decide) (by decide) rfl (fun ls hl => ?_)
  refine lv_goto (tgt := 135) hx hb dX12_plan_148 (by decide) ?_
  refine lv_iload_n hx hb dX12_plan_135 rfl (lv_at hl 0 rfl) ?_
  refine lv_iconst (v := 4) hx hb dX12_plan_136 (by decide) ?_
  refine lv_icmp_ge (tgt := 151) hx hb dX12_plan_137 (by decide) (fun c9 => absurd c9 (by decide)) (fun _ => ?_)
  refine lv_aload_n hx hb dX12_plan_140 rfl (lv_at hl 1 rfl) ?_
  refine lv_iload_n hx hb dX12_plan_141 rfl (lv_at hl 0 rfl) ?_
  have hPc := hP.sub (ws' := [(h0, .inr (12, mO q)), (q 52, .inl (E.2 0, 512, .inl (fun _ => 0))), (q 47, .inl (E.2 0, 4, .inl fc)), (q 48, .inl (E.2 0, 4, .inl (fun _ => 0)))]) [2, 3, 4, 5] rfl
  have hDc := hD.sub (ws' := [(h0, .inr (12, mO q)), (q 52, .inl (E.2 0, 512, .inl (fun _ => 0))), (q 47, .inl (E.2 0, 4, .inl fc)), (q 48, .inl (E.2 0, 4, .inl (fun _ => 0)))]) [2, 3, 4, 5] (by decide) rfl
  have hFc := va_free (wc := [(h0, .inr (12, mO q)), (q 52, .inl (E.2 0, 512, .inl (fun _ => 0))), (q 47, .inl (E.2 0, 4, .inl fc)), (q 48, .inl (E.2 0, 4, .inl (fun _ => 0)))]) hD hS hA [2, 3, 4, 5] rfl
  refine va_callv (va_runV (As := [.int 1]) (rest := []) ⟨hx, hb, hml, hown, hts⟩ (c_X12_goes1 l E h0 q fc H.size hfc) (cwV 1 hts gX12_plan_X12_goes rfl rfl rfl (by decide +kernel) ⟨Nat.le_of_ble_eq_true rfl, Nat.le_of_ble_eq_true rfl⟩) ⟨pcW_blind, va_recv hK hPc (ci := 12) (q0 := 0) rfl rfl, (pcW_pre hPc hkn hDc hst hS hFc)⟩ rfl rfl hl.1 rfl (lv_room (Nat.le_of_ble_eq_true rfl)) dX12_plan_142 ⟨Nat.le_of_ble_eq_true rfl, Nat.le_of_ble_eq_true rfl⟩) hS (fun q _ h => hFc q h) hFc (fun u t H1 locs ht hvm hw22 hB hz1 hk1 hS => ?_)
  obtain ⟨hP1, hD1⟩ := hB
  rw [ht] at hP1
  try dsimp only at hw22
  obtain ⟨hP, hD⟩ := va_join (wr := [(q 51, .inl (E.2 0, 512, .inl fLL)), (q 55, .inl (E.2 0, 4, .inl (fun _ => 0)))]) (w1 := [(h0, .inr (12, mO q)), (q 52, .inl (E.2 0, 512, .inl (fun _ => 0))), (q 47, .inl (E.2 0, 4, .inl fc)), (q 48, .inl (E.2 0, 4, .inl (fun _ => 0)))]) hP hD [2, 3, 4, 5] [0, 1] rfl rfl (by decide) (by decide) hk1 hFc hP1 hD1
  generalize H1 = H at hP hS ⊢
  have hP : va_P E.1 vwCl [(q 51, .inl (E.2 0, 512, .inl fLL)), (q 55, .inl (E.2 0, 4, .inl (fun _ => 0))), (h0, .inr (12, mO q)), (q 52, .inl (E.2 0, 512, .inl (fun _ => 0))), (q 47, .inl (E.2 0, 4, .inl fc)), (q 48, .inl (E.2 0, 4, .inl (fun _ => 0)))] H := hP
  have hD : va_D A [(q 51, .inl (E.2 0, 512, .inl fLL)), (q 55, .inl (E.2 0, 4, .inl (fun _ => 0))), (h0, .inr (12, mO q)), (q 52, .inl (E.2 0, 512, .inl (fun _ => 0))), (q 47, .inl (E.2 0, 4, .inl fc)), (q 48, .inl (E.2 0, 4, .inl (fun _ => 0)))] := hD
  refine lv_iinc (v := 2) (lv' := [(1, .int 2), (0, .ref h0)]) hx hb dX12_plan_145 hl (k := 0) rfl (by decide) (by decide) rfl (fun ls hl => ?_)
  refine lv_goto (tgt := 135) hx hb dX12_plan_148 (by decide) ?_
  refine lv_iload_n hx hb dX12_plan_135 rfl (lv_at hl 0 rfl) ?_
  refine lv_iconst (v := 4) hx hb dX12_plan_136 (by decide) ?_
  refine lv_icmp_ge (tgt := 151) hx hb dX12_plan_137 (by decide) (fun c9 => absurd c9 (by decide)) (fun _ => ?_)
  refine lv_aload_n hx hb dX12_plan_140 rfl (lv_at hl 1 rfl) ?_
  refine lv_iload_n hx hb dX12_plan_141 rfl (lv_at hl 0 rfl) ?_
  have hPc := hP.sub (ws' := [(h0, .inr (12, mO q)), (q 52, .inl (E.2 0, 512, .inl (fun _ => 0))), (q 47, .inl (E.2 0, 4, .inl fc)), (q 48, .inl (E.2 0, 4, .inl (fun _ => 0)))]) [2, 3, 4, 5] rfl
  have hDc := hD.sub (ws' := [(h0, .inr (12, mO q)), (q 52, .inl (E.2 0, 512, .inl (fun _ => 0))), (q 47, .inl (E.2 0, 4, .inl fc)), (q 48, .inl (E.2 0, 4, .inl (fun _ => 0)))]) [2, 3, 4, 5] (by decide) rfl
  have hFc := va_free (wc := [(h0, .inr (12, mO q)), (q 52, .inl (E.2 0, 512, .inl (fun _ => 0))), (q 47, .inl (E.2 0, 4, .inl fc)), (q 48, .inl (E.2 0, 4, .inl (fun _ => 0)))]) hD hS hA [2, 3, 4, 5] rfl
  refine va_callv (va_runV (As := [.int 2]) (rest := []) ⟨hx, hb, hml, hown, hts⟩ (c_X12_goes2 l E h0 q fc H.size hfc) (cwV 1 hts gX12_plan_X12_goes rfl rfl rfl (by decide +kernel) ⟨Nat.le_of_ble_eq_true rfl, Nat.le_of_ble_eq_true rfl⟩) ⟨pcW_blind, va_recv hK hPc (ci := 12) (q0 := 0) rfl rfl, (pcW_pre hPc hkn hDc hst hS hFc)⟩ rfl rfl hl.1 rfl (lv_room (Nat.le_of_ble_eq_true rfl)) dX12_plan_142 ⟨Nat.le_of_ble_eq_true rfl, Nat.le_of_ble_eq_true rfl⟩) hS (fun q _ h => hFc q h) hFc (fun u t H1 locs ht hvm hw24 hB hz1 hk1 hS => ?_)
  obtain ⟨hP1, hD1⟩ := hB
  rw [ht] at hP1
  try dsimp only at hw24
  obtain ⟨hP, hD⟩ := va_join (wr := [(q 51, .inl (E.2 0, 512, .inl fLL)), (q 55, .inl (E.2 0, 4, .inl (fun _ => 0)))]) (w1 := [(h0, .inr (12, mO q)), (q 52, .inl (E.2 0, 512, .inl (fun _ => 0))), (q 47, .inl (E.2 0, 4, .inl fc)), (q 48, .inl (E.2 0, 4, .inl (fun _ => 0)))]) hP hD [2, 3, 4, 5] [0, 1] rfl rfl (by decide) (by decide) hk1 hFc hP1 hD1
  generalize H1 = H at hP hS ⊢
  have hP : va_P E.1 vwCl [(q 51, .inl (E.2 0, 512, .inl fLL)), (q 55, .inl (E.2 0, 4, .inl (fun _ => 0))), (h0, .inr (12, mO q)), (q 52, .inl (E.2 0, 512, .inl (fun _ => 0))), (q 47, .inl (E.2 0, 4, .inl fc)), (q 48, .inl (E.2 0, 4, .inl (fun _ => 0)))] H := hP
  have hD : va_D A [(q 51, .inl (E.2 0, 512, .inl fLL)), (q 55, .inl (E.2 0, 4, .inl (fun _ => 0))), (h0, .inr (12, mO q)), (q 52, .inl (E.2 0, 512, .inl (fun _ => 0))), (q 47, .inl (E.2 0, 4, .inl fc)), (q 48, .inl (E.2 0, 4, .inl (fun _ => 0)))] := hD
  refine lv_iinc (v := 3) (lv' := [(1, .int 3), (0, .ref h0)]) hx hb dX12_plan_145 hl (k := 0) rfl (by decide) (by decide) rfl (fun ls hl => ?_)
  refine lv_goto (tgt := 135) hx hb dX12_plan_148 (by decide) ?_
  refine lv_iload_n hx hb dX12_plan_135 rfl (lv_at hl 0 rfl) ?_
  refine lv_iconst (v := 4) hx hb dX12_plan_136 (by decide) ?_
  refine lv_icmp_ge (tgt := 151) hx hb dX12_plan_137 (by decide) (fun c9 => absurd c9 (by decide)) (fun _ => ?_)
  refine lv_aload_n hx hb dX12_plan_140 rfl (lv_at hl 1 rfl) ?_
  refine lv_iload_n hx hb dX12_plan_141 rfl (lv_at hl 0 rfl) ?_
  have hPc := hP.sub (ws' := [(h0, .inr (12, mO q)), (q 52, .inl (E.2 0, 512, .inl (fun _ => 0))), (q 47, .inl (E.2 0, 4, .inl fc)), (q 48, .inl (E.2 0, 4, .inl (fun _ => 0)))]) [2, 3, 4, 5] rfl
  have hDc := hD.sub (ws' := [(h0, .inr (12, mO q)), (q 52, .inl (E.2 0, 512, .inl (fun _ => 0))), (q 47, .inl (E.2 0, 4, .inl fc)), (q 48, .inl (E.2 0, 4, .inl (fun _ => 0)))]) [2, 3, 4, 5] (by decide) rfl
  have hFc := va_free (wc := [(h0, .inr (12, mO q)), (q 52, .inl (E.2 0, 512, .inl (fun _ => 0))), (q 47, .inl (E.2 0, 4, .inl fc)), (q 48, .inl (E.2 0, 4, .inl (fun _ => 0)))]) hD hS hA [2, 3, 4, 5] rfl
  refine va_callv (va_runV (As := [.int 3]) (rest := []) ⟨hx, hb, hml, hown, hts⟩ (c_X12_goes3 l E h0 q fc H.size hfc) (cwV 1 hts gX12_plan_X12_goes rfl rfl rfl (by decide +kernel) ⟨Nat.le_of_ble_eq_true rfl, Nat.le_of_ble_eq_true rfl⟩) ⟨pcW_blind, va_recv hK hPc (ci := 12) (q0 := 0) rfl rfl, (pcW_pre hPc hkn hDc hst hS hFc)⟩ rfl rfl hl.1 rfl (lv_room (Nat.le_of_ble_eq_true rfl)) dX12_plan_142 ⟨Nat.le_of_ble_eq_true rfl, Nat.le_of_ble_eq_true rfl⟩) hS (fun q _ h => hFc q h) hFc (fun u t H1 locs ht hvm hw26 hB hz1 hk1 hS => ?_)
  obtain ⟨hP1, hD1⟩ := hB
  rw [ht] at hP1
  try dsimp only at hw26
  obtain ⟨hP, hD⟩ := va_join (wr := [(q 51, .inl (E.2 0, 512, .inl fLL)), (q 55, .inl (E.2 0, 4, .inl (fun _ => 0)))]) (w1 := [(h0, .inr (12, mO q)), (q 52, .inl (E.2 0, 512, .inl (fun _ => 0))), (q 47, .inl (E.2 0, 4, .inl fc)), (q 48, .inl (E.2 0, 4, .inl (fun _ => 0)))]) hP hD [2, 3, 4, 5] [0, 1] rfl rfl (by decide) (by decide) hk1 hFc hP1 hD1
  generalize H1 = H at hP hS ⊢
  have hP : va_P E.1 vwCl [(q 51, .inl (E.2 0, 512, .inl fLL)), (q 55, .inl (E.2 0, 4, .inl (fun _ => 0))), (h0, .inr (12, mO q)), (q 52, .inl (E.2 0, 512, .inl (fun _ => 0))), (q 47, .inl (E.2 0, 4, .inl fc)), (q 48, .inl (E.2 0, 4, .inl (fun _ => 0)))] H := hP
  have hD : va_D A [(q 51, .inl (E.2 0, 512, .inl fLL)), (q 55, .inl (E.2 0, 4, .inl (fun _ => 0))), (h0, .inr (12, mO q)), (q 52, .inl (E.2 0, 512, .inl (fun _ => 0))), (q 47, .inl (E.2 0, 4, .inl fc)), (q 48, .inl (E.2 0, 4, .inl (fun _ => 0)))] := hD
  refine lv_iinc (v := 4) (lv' := [(1, .int 4), (0, .ref h0)]) hx hb dX12_plan_145 hl (k := 0) rfl (by decide) (by decide) rfl (fun ls hl => ?_)
  refine lv_goto (tgt := 135) hx hb dX12_plan_148 (by decide) ?_
  refine lv_iload_n hx hb dX12_plan_135 rfl (lv_at hl 0 rfl) ?_
  refine lv_iconst (v := 4) hx hb dX12_plan_136 (by decide) ?_
  refine lv_icmp_ge (tgt := 151) hx hb dX12_plan_137 (by decide) (fun _ => ?_) (fun c9 => absurd c9 (by decide))
  refine lv_aload_n hx hb dX12_plan_151 rfl (lv_at hl 1 rfl) ?_
  refine lv_iconst (v := 1) hx hb dX12_plan_152 (by decide) ?_
  refine va_put (D := E.1) (ci := 12) (v := .int 1) (ty := .boolean) (C := RX12) (T := TX12) (N := 59) hx hb hts inX12 tyX12 tyX12_ok nmX12 hown hK hP hD hS 2 rfl rfl 50 (by decide) fl292 (fun _ h9 => h9) rfl (by decide +kernel) (by first | rfl | decide) (by first | rfl | decide) (Nat.le_of_ble_eq_true rfl) dX12_plan_153 (fun H locs hP hD hS => ?_)
  have hP : va_P E.1 vwCl [(q 51, .inl (E.2 0, 512, .inl fLL)), (q 55, .inl (E.2 0, 4, .inl (fun _ => 0))), (h0, .inr (12, (mO q).set 50 (.int 1))), (q 52, .inl (E.2 0, 512, .inl (fun _ => 0))), (q 47, .inl (E.2 0, 4, .inl fc)), (q 48, .inl (E.2 0, 4, .inl (fun _ => 0)))] H := hP
  have hD : va_D A [(q 51, .inl (E.2 0, 512, .inl fLL)), (q 55, .inl (E.2 0, 4, .inl (fun _ => 0))), (h0, .inr (12, (mO q).set 50 (.int 1))), (q 52, .inl (E.2 0, 512, .inl (fun _ => 0))), (q 47, .inl (E.2 0, 4, .inl fc)), (q 48, .inl (E.2 0, 4, .inl (fun _ => 0)))] := hD
  refine lv_aload_n hx hb dX12_plan_156 rfl (lv_at hl 1 rfl) ?_
  refine va_get (D := E.1) (ci := 12) (v := .int 0) (C := RX12) (T := TX12) (N := 59) hx hb hts inX12 hown hK hP 2 rfl rfl 57 (by decide) fl300 (fun _ h9 => h9) rfl dX12_plan_157 ?_
  have hP9 := hP.sub (ws' := []) [] rfl
  have hD9 := hD.sub (ws' := []) [] (by decide) rfl
  exact W.iret (v := 0) hx hb hr (fun t ht hW => ⟨⟨0, (), rfl, rfl, by rw [ht]; exact hP9, hD9⟩, hS.F ht⟩) hS.2.2 dX12_plan_160
set_option maxHeartbeats 4000000 in
set_option maxRecDepth 100000 in
theorem lp_fillJ {p : Program} {l : Launch} {e : Env} {R : Room} {s : State} {m : MethodId} {args : Array Value} {below : List Frame} {meth : Method} {c : Code} {cells slots : Nat} {Q : State → Prop} {A : Nat → Prop} (E : vE) (ha : Nat) (n : Nat) (v : Int64) (hx : p.tables.exec = Jvm.exec) (hb : c.code = cJ7_fill_d0a16) (hml : c.maxLocals = 5) (hown : s.vm.findClass RJ7 = some m.cls) (hts : ∀ w ∈ wsJ7_fill_d0a16, w.before args s = true) (hkn : kn E s) (hst : st A s s.heap) (hA : ∀ q : Nat, s.heap.size ≤ q → A q) (hn : n < 2 ^ 31) (kk : ∀ (f : Nat → Int64) (H : Heap) (locs : List Loc) (ls : Array Slot), (∀ k, k < n → f k = v) → va_P E.1 vwCl [(ha, .inl (E.2 2, n, .inr (.inl f)))] H → va_D A [(ha, .inl (E.2 2, n, .inr (.inl f)))] → va_S A s.heap H locs → lv_has ls 5 [(0, .ref ha)] → W p l e R s m args below meth c H locs cells slots Q (F0 m 22 ls [])) : ∀ (n0 : Nat) (i : Nat) (f : Nat → Int64) (H : Heap) (locs : List Loc) (ls : Array Slot), n - i < n0 → (i ≤ n) → (∀ k, k < i → f k = v) → va_P E.1 vwCl [(ha, .inl (E.2 2, n, .inr (.inl f)))] H → va_D A [(ha, .inl (E.2 2, n, .inr (.inl f)))] → va_S A s.heap H locs → lv_has ls 5 [(0, .ref ha), (1, .long v), (3, .int (nI i)), (4, .int (nI n))] → W p l e R s m args below meth c H locs cells slots Q (F0 m 6 ls []) := by
  have hK := hkn.1
  have hAO := hkn.2.2
  intro n0
  induction n0 with
  | zero =>
    intro i f H locs ls hn0
    exact absurd hn0 (Nat.not_lt_zero _)
  | succ n0 ih =>
    intro i f H locs ls hn0 hi hf hP hD hS hl
    refine lv_iload_n hx hb dJ7_fill_d0a16_6 rfl (lv_at hl 2 rfl) ?_
    refine lv_iload hx hb dJ7_fill_d0a16_7 (lv_at hl 3 rfl) ?_
    refine lv_icmp_ge (tgt := 22) hx hb dJ7_fill_d0a16_9 (by decide) (fun c1 => ?_) (fun c1 => ?_)
    · have hge : n ≤ i := (nI_leI hn (by omega)).mp c1
      exact kk f _ _ _ (fun k hk => hf k (by omega)) (hP.sub [0] rfl) (hD.sub [0] (by decide) rfl) hS (lv_sub hl [0] rfl)
    · have hlt : i < n := by
        rcases Nat.lt_or_ge i n with q | q
        · exact q
        · exact absurd (nI_le q (by omega)) c1
      refine lv_aload_n hx hb dJ7_fill_d0a16_12 rfl (lv_at hl 0 rfl) ?_
      refine lv_iload_n hx hb dJ7_fill_d0a16_13 rfl (lv_at hl 2 rfl) ?_
      refine lv_lload_n hx hb dJ7_fill_d0a16_14 rfl (lv_at hl 1 rfl) ?_
      refine va_last hx hb hK hP hD hS 0 2 rfl rfl (vp_in_nI hlt hn) dJ7_fill_d0a16_15 (fun H locs hP hD hS => ?_)
      have hP : va_P E.1 vwCl [(ha, .inl (E.2 2, n, .inr (.inl (vp_updL f (nI i).toNatClampNeg v))))] H := hP
      have hD : va_D A [(ha, .inl (E.2 2, n, .inr (.inl (vp_updL f (nI i).toNatClampNeg v))))] := hD
      obtain ⟨f2, ef2⟩ : ∃ g : Nat → Int64, g = vp_updL f (nI i).toNatClampNeg v := ⟨_, rfl⟩
      rw [← ef2] at hP hD
      refine lv_iinc (v := (nI (i + 1))) (lv' := [(3, .int (nI (i + 1))), (0, .ref ha), (1, .long v), (4, .int (nI n))]) hx hb dJ7_fill_d0a16_16 hl (k := 2) rfl (show nI i + 1 = nI (i + 1) from nI_1 i) (by decide) rfl (fun ls hl => ?_)
      refine lv_goto (tgt := 6) hx hb dJ7_fill_d0a16_19 (by decide) ?_
      exact ih (i + 1) f2 _ _ _ (by omega) (by omega) (by
            intro k hk
            rw [ef2, nI_clamp (by omega)]
            by_cases hki : k = i
            · rw [hki, pk_uLs]
            · rw [pk_uLn hki]; exact hf k (by omega)) (hP.sub [0] rfl) (hD.sub [0] (by decide) rfl) hS (lv_sub hl [1, 2, 0, 3] rfl)
set_option maxHeartbeats 4000000 in
set_option maxRecDepth 100000 in
theorem c_J7_fill_d0a16 (l : Launch) (E : vE) (ha : Nat) (n : Nat) (f : Nat → Int64) (v : Int64) (sz : Nat) (hn : n < 2 ^ 31) : Met l yJ7_fill_d0a16 wsJ7_fill_d0a16 ({ frames := 0, cells := 0, slots := 0, locals := 0 }) (pcW E [.ref ha, .long v] sz [(ha, .inl (E.2 2, n, .inr (.inl f)))]) (va_Qv (fun (f2 : (Nat → Int64)) => ∀ k, k < n → f2 k = v) (fun (f2 : (Nat → Int64)) (t : State) => wB E (va_A [(ha, .inl (E.2 2, n, .inr (.inl f)))] sz) [(ha, .inl (E.2 2, n, .inr (.inl f2)))] t) (va_A [(ha, .inl (E.2 2, n, .inr (.inl f)))] sz)) 0 0 (va_A [(ha, .inl (E.2 2, n, .inr (.inl f)))] sz) := by
  refine Met.ofW (cc := cJ7_fill_d0a16) (maxL := 5) (ret := none) (by decide) rfl ?_
  intro p e s m args below meth c s₁ B hml hv
  obtain ⟨rfl, hsz, hP, hkn, hD0, hst⟩ := hv
  have hx := B.exec
  have hb := B.bytes
  have hr := B.returns
  have hts := atoms_spec (ws := wsJ7_fill_d0a16) B.pre
  have hown : s.vm.findClass RJ7 = some m.cls := findClass_of_methodNamed B.named
  have hlocks := B.notSynchronized
  subst hsz
  have hD := hD0.self (sz := s.heap.size)
  have hK := hkn.1
  have hAO := hkn.2.2
  generalize hAe : va_A [(ha, .inl (E.2 2, n, .inr (.inl f)))] s.heap.size = A at hD hst ⊢
  have hA : ∀ q : Nat, s.heap.size ≤ q → A q := fun q h => by rw [← hAe]; exact Or.inr h
  have hS : va_S A s.heap s.heap [] := va_S.rf
  have hP : va_P E.1 vwCl [(ha, .inl (E.2 2, n, .inr (.inl f)))] s.heap := hP
  have hl := lv_entry ([.ref ha, .long v]) (n := 5) (Nat.le_of_ble_eq_true rfl)
  rw [lg_entry_eq]
  generalize (lg_sl ([.ref ha, .long v]) ++ List.replicate (5 - (lg_sl ([.ref ha, .long v])).length) Slot.unset).toArray = ls at hl ⊢
  have hl : lv_has ls 5 [(0, .ref ha), (1, .long v)] := hl
  refine lv_iconst (v := 0) hx hb dJ7_fill_d0a16_0 (by decide) ?_
  refine lv_istore_n (lv' := [(3, .int 0), (0, .ref ha), (1, .long v)]) hx hb dJ7_fill_d0a16_1 rfl hl (by decide) rfl (fun ls hl => ?_)
  refine lv_aload_n hx hb dJ7_fill_d0a16_2 rfl (lv_at hl 1 rfl) ?_
  refine va_alen (v := (nI n)) hx hb hK hP 0 2 rfl rfl rfl dJ7_fill_d0a16_3 ?_
  refine lv_istore (lv' := [(4, .int (nI n)), (3, .int 0), (0, .ref ha), (1, .long v)]) hx hb dJ7_fill_d0a16_4 hl (by decide) rfl (fun ls hl => ?_)
  have hPl := hP.sub (ws' := [(ha, .inl (E.2 2, n, .inr (.inl f)))]) [0] rfl
  have hDl := hD.sub (ws' := [(ha, .inl (E.2 2, n, .inr (.inl f)))]) [0] (by decide) rfl
  refine lp_fillJ E ha n v hx hb hml hown hts hkn hst hA hn (fun f9 H locs ls hf hP hD hS hl => ?_) (n + 1) 0 f _ _ _ (by omega) (Nat.zero_le n) (fun k hk => absurd hk (Nat.not_lt_zero k)) hPl hDl hS (lv_sub hl [2, 3, 1, 0] rfl)
  have hP : va_P E.1 vwCl [(ha, .inl (E.2 2, n, .inr (.inl f9)))] H := hP
  have hD : va_D A [(ha, .inl (E.2 2, n, .inr (.inl f9)))] := hD
  have hP9 := hP.sub (ws' := [(ha, .inl (E.2 2, n, .inr (.inl f9)))]) [0] rfl
  have hD9 := hD.sub (ws' := [(ha, .inl (E.2 2, n, .inr (.inl f9)))]) [0] (by decide) rfl
  exact W.vret hx hb hr (fun t ht hW => ⟨⟨f9, rfl, hf, by rw [ht]; exact hP9, hD9⟩, hS.F ht⟩) hS.2.2 dJ7_fill_d0a16_22
set_option maxHeartbeats 4000000 in
set_option maxRecDepth 100000 in
theorem c_J6_bitCount_0f7a4 (l : Launch) (E : vE) (sz : Nat) : Met l yJ6_bitCount_0f7a4 wsJ6_bitCount_0f7a4 ({ frames := 0, cells := 0, slots := 0, locals := 0 }) (pcW E [.int 0] sz []) (va_Qi (fun (r : Int32) (_ : Unit) => r = 0) (fun (_ : Unit) (t : State) => wB E (va_A [] sz) [] t) (va_A [] sz)) 0 0 (va_A [] sz) := by
  refine Met.ofW (cc := cJ6_bitCount_0f7a4) (maxL := 1) (ret := (some .int)) (by decide) rfl ?_
  intro p e s m args below meth c s₁ B hml hv
  obtain ⟨rfl, hsz, hP, hkn, hD0, hst⟩ := hv
  have hx := B.exec
  have hb := B.bytes
  have hr := B.returns
  have hts := atoms_spec (ws := wsJ6_bitCount_0f7a4) B.pre
  have hown : s.vm.findClass RJ6 = some m.cls := findClass_of_methodNamed B.named
  have hlocks := B.notSynchronized
  subst hsz
  have hD := hD0.self (sz := s.heap.size)
  have hK := hkn.1
  have hAO := hkn.2.2
  generalize hAe : va_A [] s.heap.size = A at hD hst ⊢
  have hA : ∀ q : Nat, s.heap.size ≤ q → A q := fun q h => by rw [← hAe]; exact Or.inr h
  have hS : va_S A s.heap s.heap [] := va_S.rf
  have hP : va_P E.1 vwCl [] s.heap := hP
  have hl := lv_entry ([.int 0]) (n := 1) (Nat.le_of_ble_eq_true rfl)
  rw [lg_entry_eq]
  generalize (lg_sl ([.int 0]) ++ List.replicate (1 - (lg_sl ([.int 0])).length) Slot.unset).toArray = ls at hl ⊢
  have hl : lv_has ls 1 [(0, .int 0)] := hl
  refine lv_iload_n hx hb dJ6_bitCount_0f7a4_0 rfl (lv_at hl 0 rfl) ?_
  refine lv_iload_n hx hb dJ6_bitCount_0f7a4_1 rfl (lv_at hl 0 rfl) ?_
  refine lv_iconst (v := 1) hx hb dJ6_bitCount_0f7a4_2 (by decide) ?_
  refine lv_iushr hx hb dJ6_bitCount_0f7a4_3 rfl ?_
  refine lv_topi (fun x1 ex1 => ?_)
  obtain rfl : x1 = 0 := ex1.trans (by decide +kernel)
  refine lv_ldcw (v := 1431655765) hx hb hown (hts (.constant RJ6 265 1431655765) (by decide +kernel)) dJ6_bitCount_0f7a4_4 ?_
  refine lv_iand hx hb dJ6_bitCount_0f7a4_7 ?_
  refine lv_topi (fun x2 ex2 => ?_)
  obtain rfl : x2 = 0 := ex2.trans (by decide +kernel)
  refine lv_isub hx hb dJ6_bitCount_0f7a4_8 ?_
  refine lv_topi (fun x3 ex3 => ?_)
  obtain rfl : x3 = 0 := ex3.trans (by decide +kernel)
  refine lv_istore_n (lv' := [(0, .int 0)]) hx hb dJ6_bitCount_0f7a4_9 rfl hl (by decide) rfl (fun ls hl => ?_)
  refine lv_iload_n hx hb dJ6_bitCount_0f7a4_10 rfl (lv_at hl 0 rfl) ?_
  refine lv_ldcw (v := 858993459) hx hb hown (hts (.constant RJ6 266 858993459) (by decide +kernel)) dJ6_bitCount_0f7a4_11 ?_
  refine lv_iand hx hb dJ6_bitCount_0f7a4_14 ?_
  refine lv_topi (fun x4 ex4 => ?_)
  obtain rfl : x4 = 0 := ex4.trans (by decide +kernel)
  refine lv_iload_n hx hb dJ6_bitCount_0f7a4_15 rfl (lv_at hl 0 rfl) ?_
  refine lv_iconst (v := 2) hx hb dJ6_bitCount_0f7a4_16 (by decide) ?_
  refine lv_iushr hx hb dJ6_bitCount_0f7a4_17 rfl ?_
  refine lv_topi (fun x5 ex5 => ?_)
  obtain rfl : x5 = 0 := ex5.trans (by decide +kernel)
  refine lv_ldcw (v := 858993459) hx hb hown (hts (.constant RJ6 266 858993459) (by decide +kernel)) dJ6_bitCount_0f7a4_18 ?_
  refine lv_iand hx hb dJ6_bitCount_0f7a4_21 ?_
  refine lv_topi (fun x6 ex6 => ?_)
  obtain rfl : x6 = 0 := ex6.trans (by decide +kernel)
  refine lv_iadd hx hb dJ6_bitCount_0f7a4_22 ?_
  refine lv_topi (fun x7 ex7 => ?_)
  obtain rfl : x7 = 0 := ex7.trans (by decide +kernel)
  refine lv_istore_n (lv' := [(0, .int 0)]) hx hb dJ6_bitCount_0f7a4_23 rfl hl (by decide) rfl (fun ls hl => ?_)
  refine lv_iload_n hx hb dJ6_bitCount_0f7a4_24 rfl (lv_at hl 0 rfl) ?_
  refine lv_iload_n hx hb dJ6_bitCount_0f7a4_25 rfl (lv_at hl 0 rfl) ?_
  refine lv_iconst (v := 4) hx hb dJ6_bitCount_0f7a4_26 (by decide) ?_
  refine lv_iushr hx hb dJ6_bitCount_0f7a4_27 rfl ?_
  refine lv_topi (fun x8 ex8 => ?_)
  obtain rfl : x8 = 0 := ex8.trans (by decide +kernel)
  refine lv_iadd hx hb dJ6_bitCount_0f7a4_28 ?_
  refine lv_topi (fun x9 ex9 => ?_)
  obtain rfl : x9 = 0 := ex9.trans (by decide +kernel)
  refine lv_ldcw (v := 252645135) hx hb hown (hts (.constant RJ6 267 252645135) (by decide +kernel)) dJ6_bitCount_0f7a4_29 ?_
  refine lv_iand hx hb dJ6_bitCount_0f7a4_32 ?_
  refine lv_topi (fun x10 ex10 => ?_)
  obtain rfl : x10 = 0 := ex10.trans (by decide +kernel)
  refine lv_istore_n (lv' := [(0, .int 0)]) hx hb dJ6_bitCount_0f7a4_33 rfl hl (by decide) rfl (fun ls hl => ?_)
  refine lv_iload_n hx hb dJ6_bitCount_0f7a4_34 rfl (lv_at hl 0 rfl) ?_
  refine lv_iload_n hx hb dJ6_bitCount_0f7a4_35 rfl (lv_at hl 0 rfl) ?_
  refine lv_bipush (v := 8) hx hb dJ6_bitCount_0f7a4_36 (by decide) ?_
  refine lv_iushr hx hb dJ6_bitCount_0f7a4_38 rfl ?_
  refine lv_topi (fun x11 ex11 => ?_)
  obtain rfl : x11 = 0 := ex11.trans (by decide +kernel)
  refine lv_iadd hx hb dJ6_bitCount_0f7a4_39 ?_
  refine lv_topi (fun x12 ex12 => ?_)
  obtain rfl : x12 = 0 := ex12.trans (by decide +kernel)
  refine lv_istore_n (lv' := [(0, .int 0)]) hx hb dJ6_bitCount_0f7a4_40 rfl hl (by decide) rfl (fun ls hl => ?_)
  refine lv_iload_n hx hb dJ6_bitCount_0f7a4_41 rfl (lv_at hl 0 rfl) ?_
  refine lv_iload_n hx hb dJ6_bitCount_0f7a4_42 rfl (lv_at hl 0 rfl) ?_
  refine lv_bipush (v := 16) hx hb dJ6_bitCount_0f7a4_43 (by decide) ?_
  refine lv_iushr hx hb dJ6_bitCount_0f7a4_45 rfl ?_
  refine lv_topi (fun x13 ex13 => ?_)
  obtain rfl : x13 = 0 := ex13.trans (by decide +kernel)
  refine lv_iadd hx hb dJ6_bitCount_0f7a4_46 ?_
  refine lv_topi (fun x14 ex14 => ?_)
  obtain rfl : x14 = 0 := ex14.trans (by decide +kernel)
  refine lv_istore_n (lv' := [(0, .int 0)]) hx hb dJ6_bitCount_0f7a4_47 rfl hl (by decide) rfl (fun ls hl => ?_)
  refine lv_iload_n hx hb dJ6_bitCount_0f7a4_48 rfl (lv_at hl 0 rfl) ?_
  refine lv_bipush (v := 63) hx hb dJ6_bitCount_0f7a4_49 (by decide) ?_
  refine lv_iand hx hb dJ6_bitCount_0f7a4_51 ?_
  refine lv_topi (fun x15 ex15 => ?_)
  obtain rfl : x15 = 0 := ex15.trans (by decide +kernel)
  have hP9 := hP.sub (ws' := []) [] rfl
  have hD9 := hD.sub (ws' := []) [] (by decide) rfl
  exact W.iret (v := 0) hx hb hr (fun t ht hW => ⟨⟨0, (), rfl, rfl, by rw [ht]; exact hP9, hD9⟩, hS.F ht⟩) hS.2.2 dJ6_bitCount_0f7a4_52
set_option maxHeartbeats 4000000 in
set_option maxRecDepth 100000 in
theorem c_X5_weightOf (l : Launch) (E : vE) (sz : Nat) : Met l yX5_weightOf wsX5_weightOf ({ frames := 0, cells := 0, slots := 0, locals := 0 }) (pcW E [.int 0] sz []) (va_Ql (fun (r : Int64) (_ : Unit) => r = 0) (fun (_ : Unit) (t : State) => wB E (va_A [] sz) [] t) (va_A [] sz)) 0 0 (va_A [] sz) := by
  refine Met.ofW (cc := cX5_weightOf) (maxL := 4) (ret := (some .long)) (by decide) rfl ?_
  intro p e s m args below meth c s₁ B hml hv
  obtain ⟨rfl, hsz, hP, hkn, hD0, hst⟩ := hv
  have hx := B.exec
  have hb := B.bytes
  have hr := B.returns
  have hts := atoms_spec (ws := wsX5_weightOf) B.pre
  have hown : s.vm.findClass RX5 = some m.cls := findClass_of_methodNamed B.named
  have hlocks := B.notSynchronized
  subst hsz
  have hD := hD0.self (sz := s.heap.size)
  have hK := hkn.1
  have hAO := hkn.2.2
  generalize hAe : va_A [] s.heap.size = A at hD hst ⊢
  have hA : ∀ q : Nat, s.heap.size ≤ q → A q := fun q h => by rw [← hAe]; exact Or.inr h
  have hS : va_S A s.heap s.heap [] := va_S.rf
  have hP : va_P E.1 vwCl [] s.heap := hP
  have hl := lv_entry ([.int 0]) (n := 4) (Nat.le_of_ble_eq_true rfl)
  rw [lg_entry_eq]
  generalize (lg_sl ([.int 0]) ++ List.replicate (4 - (lg_sl ([.int 0])).length) Slot.unset).toArray = ls at hl ⊢
  have hl : lv_has ls 4 [(0, .int 0)] := hl
  refine lv_lconst (v := 0) hx hb dX5_weightOf_0 (by decide) ?_
  refine lv_lstore_n (lv' := [(1, .long 0), (0, .int 0)]) hx hb dX5_weightOf_1 rfl hl (by decide) rfl (fun ls hl => ?_)
  refine lv_iconst (v := 0) hx hb dX5_weightOf_2 (by decide) ?_
  refine lv_istore_n (lv' := [(3, .int 0), (1, .long 0), (0, .int 0)]) hx hb dX5_weightOf_3 rfl hl (by decide) rfl (fun ls hl => ?_)
  refine lv_iload_n hx hb dX5_weightOf_4 rfl (lv_at hl 0 rfl) ?_
  refine lv_bipush (v := 7) hx hb dX5_weightOf_5 (by decide) ?_
  refine lv_icmp_ge (tgt := 31) hx hb dX5_weightOf_7 (by decide) (fun c9 => absurd c9 (by decide)) (fun _ => ?_)
  refine lv_lload_n hx hb dX5_weightOf_10 rfl (lv_at hl 1 rfl) ?_
  refine lv_iload_n hx hb dX5_weightOf_11 rfl (lv_at hl 2 rfl) ?_
  refine lv_iload_n hx hb dX5_weightOf_12 rfl (lv_at hl 0 rfl) ?_
  refine lv_ishr hx hb dX5_weightOf_13 ?_
  refine lv_topi (fun x1 ex1 => ?_)
  obtain rfl : x1 = 0 := ex1.trans (by decide +kernel)
  refine lv_iconst (v := 1) hx hb dX5_weightOf_14 (by decide) ?_
  refine lv_iand hx hb dX5_weightOf_15 ?_
  refine lv_topi (fun x2 ex2 => ?_)
  obtain rfl : x2 = 0 := ex2.trans (by decide +kernel)
  obtain ⟨tz3, hZtz3, hTtz3⟩ := hst.1
  refine va_getsN hx hb hZtz3 hS hown (va_Nw.use rfl (hkn.2.1 (.fieldLinkNest RX5 101 "BoatsHome" "ROW_WEIGHTS" "[I" "BoatsHome") (by decide +kernel))) (fun _ h9 => h9) dX5_weightOf_16 ?_
  refine lv_iload_n hx hb dX5_weightOf_19 rfl (lv_at hl 0 rfl) ?_
  refine va_ti (v := .int 15625) hx hb hTtz3 hS (show vp_in 0 7 from by unfold vp_in; decide) rfl dX5_weightOf_20 ?_
  refine lv_imul hx hb dX5_weightOf_21 ?_
  refine lv_topi (fun x4 ex4 => ?_)
  obtain rfl : x4 = 0 := ex4.trans (by decide +kernel)
  refine lv_i2l hx hb dX5_weightOf_22 rfl ?_
  refine lv_topl (fun x5 ex5 => ?_)
  obtain rfl : x5 = 0 := ex5.trans (by decide +kernel)
  refine lv_ladd hx hb dX5_weightOf_23 ?_
  refine lv_topl (fun x6 ex6 => ?_)
  obtain rfl : x6 = 0 := ex6.trans (by decide +kernel)
  refine lv_lstore_n (lv' := [(1, .long 0), (3, .int 0), (0, .int 0)]) hx hb dX5_weightOf_24 rfl hl (by decide) rfl (fun ls hl => ?_)
  refine lv_iinc (v := 1) (lv' := [(3, .int 1), (1, .long 0), (0, .int 0)]) hx hb dX5_weightOf_25 hl (k := 1) rfl (by decide) (by decide) rfl (fun ls hl => ?_)
  refine lv_goto (tgt := 4) hx hb dX5_weightOf_28 (by decide) ?_
  refine lv_iload_n hx hb dX5_weightOf_4 rfl (lv_at hl 0 rfl) ?_
  refine lv_bipush (v := 7) hx hb dX5_weightOf_5 (by decide) ?_
  refine lv_icmp_ge (tgt := 31) hx hb dX5_weightOf_7 (by decide) (fun c9 => absurd c9 (by decide)) (fun _ => ?_)
  refine lv_lload_n hx hb dX5_weightOf_10 rfl (lv_at hl 1 rfl) ?_
  refine lv_iload_n hx hb dX5_weightOf_11 rfl (lv_at hl 2 rfl) ?_
  refine lv_iload_n hx hb dX5_weightOf_12 rfl (lv_at hl 0 rfl) ?_
  refine lv_ishr hx hb dX5_weightOf_13 ?_
  refine lv_topi (fun x7 ex7 => ?_)
  obtain rfl : x7 = 0 := ex7.trans (by decide +kernel)
  refine lv_iconst (v := 1) hx hb dX5_weightOf_14 (by decide) ?_
  refine lv_iand hx hb dX5_weightOf_15 ?_
  refine lv_topi (fun x8 ex8 => ?_)
  obtain rfl : x8 = 0 := ex8.trans (by decide +kernel)
  obtain ⟨tz9, hZtz9, hTtz9⟩ := hst.1
  refine va_getsN hx hb hZtz9 hS hown (va_Nw.use rfl (hkn.2.1 (.fieldLinkNest RX5 101 "BoatsHome" "ROW_WEIGHTS" "[I" "BoatsHome") (by decide +kernel))) (fun _ h9 => h9) dX5_weightOf_16 ?_
  refine lv_iload_n hx hb dX5_weightOf_19 rfl (lv_at hl 0 rfl) ?_
  refine va_ti (v := .int 3125) hx hb hTtz9 hS (show vp_in 1 7 from by unfold vp_in; decide) rfl dX5_weightOf_20 ?_
  refine lv_imul hx hb dX5_weightOf_21 ?_
  refine lv_topi (fun x10 ex10 => ?_)
  obtain rfl : x10 = 0 := ex10.trans (by decide +kernel)
  refine lv_i2l hx hb dX5_weightOf_22 rfl ?_
  refine lv_topl (fun x11 ex11 => ?_)
  obtain rfl : x11 = 0 := ex11.trans (by decide +kernel)
  refine lv_ladd hx hb dX5_weightOf_23 ?_
  refine lv_topl (fun x12 ex12 => ?_)
  obtain rfl : x12 = 0 := ex12.trans (by decide +kernel)
  refine lv_lstore_n (lv' := [(1, .long 0), (3, .int 1), (0, .int 0)]) hx hb dX5_weightOf_24 rfl hl (by decide) rfl (fun ls hl => ?_)
  refine lv_iinc (v := 2) (lv' := [(3, .int 2), (1, .long 0), (0, .int 0)]) hx hb dX5_weightOf_25 hl (k := 1) rfl (by decide) (by decide) rfl (fun ls hl => ?_)
  refine lv_goto (tgt := 4) hx hb dX5_weightOf_28 (by decide) ?_
  refine lv_iload_n hx hb dX5_weightOf_4 rfl (lv_at hl 0 rfl) ?_
  refine lv_bipush (v := 7) hx hb dX5_weightOf_5 (by decide) ?_
  refine lv_icmp_ge (tgt := 31) hx hb dX5_weightOf_7 (by decide) (fun c9 => absurd c9 (by decide)) (fun _ => ?_)
  refine lv_lload_n hx hb dX5_weightOf_10 rfl (lv_at hl 1 rfl) ?_
  refine lv_iload_n hx hb dX5_weightOf_11 rfl (lv_at hl 2 rfl) ?_
  refine lv_iload_n hx hb dX5_weightOf_12 rfl (lv_at hl 0 rfl) ?_
  refine lv_ishr hx hb dX5_weightOf_13 ?_
  refine lv_topi (fun x13 ex13 => ?_)
  obtain rfl : x13 = 0 := ex13.trans (by decide +kernel)
  refine lv_iconst (v := 1) hx hb dX5_weightOf_14 (by decide) ?_
  refine lv_iand hx hb dX5_weightOf_15 ?_
  refine lv_topi (fun x14 ex14 => ?_)
  obtain rfl : x14 = 0 := ex14.trans (by decide +kernel)
  obtain ⟨tz15, hZtz15, hTtz15⟩ := hst.1
  refine va_getsN hx hb hZtz15 hS hown (va_Nw.use rfl (hkn.2.1 (.fieldLinkNest RX5 101 "BoatsHome" "ROW_WEIGHTS" "[I" "BoatsHome") (by decide +kernel))) (fun _ h9 => h9) dX5_weightOf_16 ?_
  refine lv_iload_n hx hb dX5_weightOf_19 rfl (lv_at hl 0 rfl) ?_
  refine va_ti (v := .int 625) hx hb hTtz15 hS (show vp_in 2 7 from by unfold vp_in; decide) rfl dX5_weightOf_20 ?_
  refine lv_imul hx hb dX5_weightOf_21 ?_
  refine lv_topi (fun x16 ex16 => ?_)
  obtain rfl : x16 = 0 := ex16.trans (by decide +kernel)
  refine lv_i2l hx hb dX5_weightOf_22 rfl ?_
  refine lv_topl (fun x17 ex17 => ?_)
  obtain rfl : x17 = 0 := ex17.trans (by decide +kernel)
  refine lv_ladd hx hb dX5_weightOf_23 ?_
  refine lv_topl (fun x18 ex18 => ?_)
  obtain rfl : x18 = 0 := ex18.trans (by decide +kernel)
  refine lv_lstore_n (lv' := [(1, .long 0), (3, .int 2), (0, .int 0)]) hx hb dX5_weightOf_24 rfl hl (by decide) rfl (fun ls hl => ?_)
  refine lv_iinc (v := 3) (lv' := [(3, .int 3), (1, .long 0), (0, .int 0)]) hx hb dX5_weightOf_25 hl (k := 1) rfl (by decide) (by decide) rfl (fun ls hl => ?_)
  refine lv_goto (tgt := 4) hx hb dX5_weightOf_28 (by decide) ?_
  refine lv_iload_n hx hb dX5_weightOf_4 rfl (lv_at hl 0 rfl) ?_
  refine lv_bipush (v := 7) hx hb dX5_weightOf_5 (by decide) ?_
  refine lv_icmp_ge (tgt := 31) hx hb dX5_weightOf_7 (by decide) (fun c9 => absurd c9 (by decide)) (fun _ => ?_)
  refine lv_lload_n hx hb dX5_weightOf_10 rfl (lv_at hl 1 rfl) ?_
  refine lv_iload_n hx hb dX5_weightOf_11 rfl (lv_at hl 2 rfl) ?_
  refine lv_iload_n hx hb dX5_weightOf_12 rfl (lv_at hl 0 rfl) ?_
  refine lv_ishr hx hb dX5_weightOf_13 ?_
  refine lv_topi (fun x19 ex19 => ?_)
  obtain rfl : x19 = 0 := ex19.trans (by decide +kernel)
  refine lv_iconst (v := 1) hx hb dX5_weightOf_14 (by decide) ?_
  refine lv_iand hx hb dX5_weightOf_15 ?_
  refine lv_topi (fun x20 ex20 => ?_)
  obtain rfl : x20 = 0 := ex20.trans (by decide +kernel)
  obtain ⟨tz21, hZtz21, hTtz21⟩ := hst.1
  refine va_getsN hx hb hZtz21 hS hown (va_Nw.use rfl (hkn.2.1 (.fieldLinkNest RX5 101 "BoatsHome" "ROW_WEIGHTS" "[I" "BoatsHome") (by decide +kernel))) (fun _ h9 => h9) dX5_weightOf_16 ?_
  refine lv_iload_n hx hb dX5_weightOf_19 rfl (lv_at hl 0 rfl) ?_
  refine va_ti (v := .int 125) hx hb hTtz21 hS (show vp_in 3 7 from by unfold vp_in; decide) rfl dX5_weightOf_20 ?_
  refine lv_imul hx hb dX5_weightOf_21 ?_
  refine lv_topi (fun x22 ex22 => ?_)
  obtain rfl : x22 = 0 := ex22.trans (by decide +kernel)
  refine lv_i2l hx hb dX5_weightOf_22 rfl ?_
  refine lv_topl (fun x23 ex23 => ?_)
  obtain rfl : x23 = 0 := ex23.trans (by decide +kernel)
  refine lv_ladd hx hb dX5_weightOf_23 ?_
  refine lv_topl (fun x24 ex24 => ?_)
  obtain rfl : x24 = 0 := ex24.trans (by decide +kernel)
  refine lv_lstore_n (lv' := [(1, .long 0), (3, .int 3), (0, .int 0)]) hx hb dX5_weightOf_24 rfl hl (by decide) rfl (fun ls hl => ?_)
  refine lv_iinc (v := 4) (lv' := [(3, .int 4), (1, .long 0), (0, .int 0)]) hx hb dX5_weightOf_25 hl (k := 1) rfl (by decide) (by decide) rfl (fun ls hl => ?_)
  refine lv_goto (tgt := 4) hx hb dX5_weightOf_28 (by decide) ?_
  refine lv_iload_n hx hb dX5_weightOf_4 rfl (lv_at hl 0 rfl) ?_
  refine lv_bipush (v := 7) hx hb dX5_weightOf_5 (by decide) ?_
  refine lv_icmp_ge (tgt := 31) hx hb dX5_weightOf_7 (by decide) (fun c9 => absurd c9 (by decide)) (fun _ => ?_)
  refine lv_lload_n hx hb dX5_weightOf_10 rfl (lv_at hl 1 rfl) ?_
  refine lv_iload_n hx hb dX5_weightOf_11 rfl (lv_at hl 2 rfl) ?_
  refine lv_iload_n hx hb dX5_weightOf_12 rfl (lv_at hl 0 rfl) ?_
  refine lv_ishr hx hb dX5_weightOf_13 ?_
  refine lv_topi (fun x25 ex25 => ?_)
  obtain rfl : x25 = 0 := ex25.trans (by decide +kernel)
  refine lv_iconst (v := 1) hx hb dX5_weightOf_14 (by decide) ?_
  refine lv_iand hx hb dX5_weightOf_15 ?_
  refine lv_topi (fun x26 ex26 => ?_)
  obtain rfl : x26 = 0 := ex26.trans (by decide +kernel)
  obtain ⟨tz27, hZtz27, hTtz27⟩ := hst.1
  refine va_getsN hx hb hZtz27 hS hown (va_Nw.use rfl (hkn.2.1 (.fieldLinkNest RX5 101 "BoatsHome" "ROW_WEIGHTS" "[I" "BoatsHome") (by decide +kernel))) (fun _ h9 => h9) dX5_weightOf_16 ?_
  refine lv_iload_n hx hb dX5_weightOf_19 rfl (lv_at hl 0 rfl) ?_
  refine va_ti (v := .int 25) hx hb hTtz27 hS (show vp_in 4 7 from by unfold vp_in; decide) rfl dX5_weightOf_20 ?_
  refine lv_imul hx hb dX5_weightOf_21 ?_
  refine lv_topi (fun x28 ex28 => ?_)
  obtain rfl : x28 = 0 := ex28.trans (by decide +kernel)
  refine lv_i2l hx hb dX5_weightOf_22 rfl ?_
  refine lv_topl (fun x29 ex29 => ?_)
  obtain rfl : x29 = 0 := ex29.trans (by decide +kernel)
  refine lv_ladd hx hb dX5_weightOf_23 ?_
  refine lv_topl (fun x30 ex30 => ?_)
  obtain rfl : x30 = 0 := ex30.trans (by decide +kernel)
  refine lv_lstore_n (lv' := [(1, .long 0), (3, .int 4), (0, .int 0)]) hx hb dX5_weightOf_24 rfl hl (by decide) rfl (fun ls hl => ?_)
  refine lv_iinc (v := 5) (lv' := [(3, .int 5), (1, .long 0), (0, .int 0)]) hx hb dX5_weightOf_25 hl (k := 1) rfl (by decide) (by decide) rfl (fun ls hl => ?_)
  refine lv_goto (tgt := 4) hx hb dX5_weightOf_28 (by decide) ?_
  refine lv_iload_n hx hb dX5_weightOf_4 rfl (lv_at hl 0 rfl) ?_
  refine lv_bipush (v := 7) hx hb dX5_weightOf_5 (by decide) ?_
  refine lv_icmp_ge (tgt := 31) hx hb dX5_weightOf_7 (by decide) (fun c9 => absurd c9 (by decide)) (fun _ => ?_)
  refine lv_lload_n hx hb dX5_weightOf_10 rfl (lv_at hl 1 rfl) ?_
  refine lv_iload_n hx hb dX5_weightOf_11 rfl (lv_at hl 2 rfl) ?_
  refine lv_iload_n hx hb dX5_weightOf_12 rfl (lv_at hl 0 rfl) ?_
  refine lv_ishr hx hb dX5_weightOf_13 ?_
  refine lv_topi (fun x31 ex31 => ?_)
  obtain rfl : x31 = 0 := ex31.trans (by decide +kernel)
  refine lv_iconst (v := 1) hx hb dX5_weightOf_14 (by decide) ?_
  refine lv_iand hx hb dX5_weightOf_15 ?_
  refine lv_topi (fun x32 ex32 => ?_)
  obtain rfl : x32 = 0 := ex32.trans (by decide +kernel)
  obtain ⟨tz33, hZtz33, hTtz33⟩ := hst.1
  refine va_getsN hx hb hZtz33 hS hown (va_Nw.use rfl (hkn.2.1 (.fieldLinkNest RX5 101 "BoatsHome" "ROW_WEIGHTS" "[I" "BoatsHome") (by decide +kernel))) (fun _ h9 => h9) dX5_weightOf_16 ?_
  refine lv_iload_n hx hb dX5_weightOf_19 rfl (lv_at hl 0 rfl) ?_
  refine va_ti (v := .int 5) hx hb hTtz33 hS (show vp_in 5 7 from by unfold vp_in; decide) rfl dX5_weightOf_20 ?_
  refine lv_imul hx hb dX5_weightOf_21 ?_
  refine lv_topi (fun x34 ex34 => ?_)
  obtain rfl : x34 = 0 := ex34.trans (by decide +kernel)
  refine lv_i2l hx hb dX5_weightOf_22 rfl ?_
  refine lv_topl (fun x35 ex35 => ?_)
  obtain rfl : x35 = 0 := ex35.trans (by decide +kernel)
  refine lv_ladd hx hb dX5_weightOf_23 ?_
  refine lv_topl (fun x36 ex36 => ?_)
  obtain rfl : x36 = 0 := ex36.trans (by decide +kernel)
  refine lv_lstore_n (lv' := [(1, .long 0), (3, .int 5), (0, .int 0)]) hx hb dX5_weightOf_24 rfl hl (by decide) rfl (fun ls hl => ?_)
  refine lv_iinc (v := 6) (lv' := [(3, .int 6), (1, .long 0), (0, .int 0)]) hx hb dX5_weightOf_25 hl (k := 1) rfl (by decide) (by decide) rfl (fun ls hl => ?_)
  refine lv_goto (tgt := 4) hx hb dX5_weightOf_28 (by decide) ?_
  refine lv_iload_n hx hb dX5_weightOf_4 rfl (lv_at hl 0 rfl) ?_
  refine lv_bipush (v := 7) hx hb dX5_weightOf_5 (by decide) ?_
  refine lv_icmp_ge (tgt := 31) hx hb dX5_weightOf_7 (by decide) (fun c9 => absurd c9 (by decide)) (fun _ => ?_)
  refine lv_lload_n hx hb dX5_weightOf_10 rfl (lv_at hl 1 rfl) ?_
  refine lv_iload_n hx hb dX5_weightOf_11 rfl (lv_at hl 2 rfl) ?_
  refine lv_iload_n hx hb dX5_weightOf_12 rfl (lv_at hl 0 rfl) ?_
  refine lv_ishr hx hb dX5_weightOf_13 ?_
  refine lv_topi (fun x37 ex37 => ?_)
  obtain rfl : x37 = 0 := ex37.trans (by decide +kernel)
  refine lv_iconst (v := 1) hx hb dX5_weightOf_14 (by decide) ?_
  refine lv_iand hx hb dX5_weightOf_15 ?_
  refine lv_topi (fun x38 ex38 => ?_)
  obtain rfl : x38 = 0 := ex38.trans (by decide +kernel)
  obtain ⟨tz39, hZtz39, hTtz39⟩ := hst.1
  refine va_getsN hx hb hZtz39 hS hown (va_Nw.use rfl (hkn.2.1 (.fieldLinkNest RX5 101 "BoatsHome" "ROW_WEIGHTS" "[I" "BoatsHome") (by decide +kernel))) (fun _ h9 => h9) dX5_weightOf_16 ?_
  refine lv_iload_n hx hb dX5_weightOf_19 rfl (lv_at hl 0 rfl) ?_
  refine va_ti (v := .int 1) hx hb hTtz39 hS (show vp_in 6 7 from by unfold vp_in; decide) rfl dX5_weightOf_20 ?_
  refine lv_imul hx hb dX5_weightOf_21 ?_
  refine lv_topi (fun x40 ex40 => ?_)
  obtain rfl : x40 = 0 := ex40.trans (by decide +kernel)
  refine lv_i2l hx hb dX5_weightOf_22 rfl ?_
  refine lv_topl (fun x41 ex41 => ?_)
  obtain rfl : x41 = 0 := ex41.trans (by decide +kernel)
  refine lv_ladd hx hb dX5_weightOf_23 ?_
  refine lv_topl (fun x42 ex42 => ?_)
  obtain rfl : x42 = 0 := ex42.trans (by decide +kernel)
  refine lv_lstore_n (lv' := [(1, .long 0), (3, .int 6), (0, .int 0)]) hx hb dX5_weightOf_24 rfl hl (by decide) rfl (fun ls hl => ?_)
  refine lv_iinc (v := 7) (lv' := [(3, .int 7), (1, .long 0), (0, .int 0)]) hx hb dX5_weightOf_25 hl (k := 1) rfl (by decide) (by decide) rfl (fun ls hl => ?_)
  refine lv_goto (tgt := 4) hx hb dX5_weightOf_28 (by decide) ?_
  refine lv_iload_n hx hb dX5_weightOf_4 rfl (lv_at hl 0 rfl) ?_
  refine lv_bipush (v := 7) hx hb dX5_weightOf_5 (by decide) ?_
  refine lv_icmp_ge (tgt := 31) hx hb dX5_weightOf_7 (by decide) (fun _ => ?_) (fun c9 => absurd c9 (by decide))
  refine lv_lload_n hx hb dX5_weightOf_31 rfl (lv_at hl 1 rfl) ?_
  have hP9 := hP.sub (ws' := []) [] rfl
  have hD9 := hD.sub (ws' := []) [] (by decide) rfl
  exact W.lret (v := 0) hx hb hr (fun t ht hW => ⟨⟨0, (), rfl, rfl, by rw [ht]; exact hP9, hD9⟩, hS.F ht⟩) hS.2.2 dX5_weightOf_32
set_option maxHeartbeats 4000000 in
set_option maxRecDepth 100000 in
theorem c_X5_readRow (l : Launch) (E : vE) (h0 : Nat) (of : Nat) (k1 : Nat) (k2 : Nat) (k3 : Nat) (k4 : Nat) (sz : Nat) : Met l yX5_readRow wsX5_readRow ({ frames := 0, cells := 0, slots := 0, locals := 0 }) (pcW E [.ref h0, .int 0] sz [(h0, .inr (5, [.ref of, .ref k1, .ref k2, .ref k3, .ref k4, .int 0, .int 0, .int 0])), (k3, .inl (E.2 0, 7, .inl (fun _ => 0))), (k4, .inl (E.2 0, 7, .inl (fun _ => 0)))]) (va_Qv (fun (u : (Nat → Int32) × (Nat → Int32)) => match u with | (f3, f4) => True) (fun (u : (Nat → Int32) × (Nat → Int32)) (t : State) => match u with | (f3, f4) => wB E (va_A [(h0, .inr (5, [.ref of, .ref k1, .ref k2, .ref k3, .ref k4, .int 0, .int 0, .int 0])), (k3, .inl (E.2 0, 7, .inl (fun _ => 0))), (k4, .inl (E.2 0, 7, .inl (fun _ => 0)))] sz) [(h0, .inr (5, [.ref of, .ref k1, .ref k2, .ref k3, .ref k4, .int 0, .int 0, .int 0])), (k3, .inl (E.2 0, 7, .inl f3)), (k4, .inl (E.2 0, 7, .inl f4))] t) (va_A [(h0, .inr (5, [.ref of, .ref k1, .ref k2, .ref k3, .ref k4, .int 0, .int 0, .int 0])), (k3, .inl (E.2 0, 7, .inl (fun _ => 0))), (k4, .inl (E.2 0, 7, .inl (fun _ => 0)))] sz)) 0 0 (va_A [(h0, .inr (5, [.ref of, .ref k1, .ref k2, .ref k3, .ref k4, .int 0, .int 0, .int 0])), (k3, .inl (E.2 0, 7, .inl (fun _ => 0))), (k4, .inl (E.2 0, 7, .inl (fun _ => 0)))] sz) := by
  refine Met.ofW (cc := cX5_readRow) (maxL := 4) (ret := none) (by decide) rfl ?_
  intro p e s m args below meth c s₁ B hml hv
  obtain ⟨rfl, hsz, hP, hkn, hD0, hst⟩ := hv
  have hx := B.exec
  have hb := B.bytes
  have hr := B.returns
  have hts := atoms_spec (ws := wsX5_readRow) B.pre
  have hown : s.vm.findClass RX5 = some m.cls := findClass_of_methodNamed B.named
  have hlocks := B.notSynchronized
  subst hsz
  have hD := hD0.self (sz := s.heap.size)
  have hK := hkn.1
  have hAO := hkn.2.2
  generalize hAe : va_A [(h0, .inr (5, [.ref of, .ref k1, .ref k2, .ref k3, .ref k4, .int 0, .int 0, .int 0])), (k3, .inl (E.2 0, 7, .inl (fun _ => 0))), (k4, .inl (E.2 0, 7, .inl (fun _ => 0)))] s.heap.size = A at hD hst ⊢
  have hA : ∀ q : Nat, s.heap.size ≤ q → A q := fun q h => by rw [← hAe]; exact Or.inr h
  have hS : va_S A s.heap s.heap [] := va_S.rf
  have hP : va_P E.1 vwCl [(h0, .inr (5, [.ref of, .ref k1, .ref k2, .ref k3, .ref k4, .int 0, .int 0, .int 0])), (k3, .inl (E.2 0, 7, .inl (fun _ => 0))), (k4, .inl (E.2 0, 7, .inl (fun _ => 0)))] s.heap := hP
  have hl := lv_entry ([.ref h0, .int 0]) (n := 4) (Nat.le_of_ble_eq_true rfl)
  rw [lg_entry_eq]
  generalize (lg_sl ([.ref h0, .int 0]) ++ List.replicate (4 - (lg_sl ([.ref h0, .int 0])).length) Slot.unset).toArray = ls at hl ⊢
  have hl : lv_has ls 4 [(0, .ref h0), (1, .int 0)] := hl
  have fl15 := hts (.fieldLink RX5 15 "BoatsHome$Plan" "crewOf" "[I") (by decide +kernel)
  have fl19 := hts (.fieldLink RX5 19 "BoatsHome$Plan" "dayOf" "[I") (by decide +kernel)
  have inX5 : ∀ w ∈ u_ws RX5 TX5 8, w ∈ wsX5_readRow := by decide +kernel
  refine lv_iconst (v := 0) hx hb dX5_readRow_0 (by decide) ?_
  refine lv_istore_n (lv' := [(2, .int 0), (0, .ref h0), (1, .int 0)]) hx hb dX5_readRow_1 rfl hl (by decide) rfl (fun ls hl => ?_)
  refine lv_iload_n hx hb dX5_readRow_2 rfl (lv_at hl 0 rfl) ?_
  refine lv_bipush (v := 7) hx hb dX5_readRow_3 (by decide) ?_
  refine lv_icmp_ge (tgt := 47) hx hb dX5_readRow_5 (by decide) (fun c9 => absurd c9 (by decide)) (fun _ => ?_)
  refine lv_iload_n hx hb dX5_readRow_8 rfl (lv_at hl 2 rfl) ?_
  obtain ⟨tz1, hZtz1, hTtz1⟩ := hst.1
  refine va_getsN hx hb hZtz1 hS hown (va_Nw.use rfl (hkn.2.1 (.fieldLinkNest RX5 101 "BoatsHome" "ROW_WEIGHTS" "[I" "BoatsHome") (by decide +kernel))) (fun _ h9 => h9) dX5_readRow_9 ?_
  refine lv_iload_n hx hb dX5_readRow_12 rfl (lv_at hl 0 rfl) ?_
  refine va_ti (v := .int 15625) hx hb hTtz1 hS (show vp_in 0 7 from by unfold vp_in; decide) rfl dX5_readRow_13 ?_
  refine lv_idiv hx hb dX5_readRow_14 (by decide) ?_
  refine lv_topi (fun x2 ex2 => ?_)
  obtain rfl : x2 = 0 := ex2.trans (by decide +kernel)
  refine lv_iconst (v := 5) hx hb dX5_readRow_15 (by decide) ?_
  refine lv_irem hx hb dX5_readRow_16 (by decide) ?_
  refine lv_topi (fun x3 ex3 => ?_)
  obtain rfl : x3 = 0 := ex3.trans (by decide +kernel)
  refine lv_istore_n (lv' := [(3, .int 0), (2, .int 0), (0, .ref h0), (1, .int 0)]) hx hb dX5_readRow_17 rfl hl (by decide) rfl (fun ls hl => ?_)
  refine lv_aload_n hx hb dX5_readRow_18 rfl (lv_at hl 2 rfl) ?_
  refine va_get (D := E.1) (ci := 5) (v := .ref k3) (C := RX5) (T := TX5) (N := 8) hx hb hts inX5 hown hK hP 0 rfl rfl 3 (by decide) fl15 (fun _ h9 => h9) rfl dX5_readRow_19 ?_
  refine lv_iload_n hx hb dX5_readRow_22 rfl (lv_at hl 1 rfl) ?_
  refine lv_iload_n hx hb dX5_readRow_23 rfl (lv_at hl 0 rfl) ?_
  refine lv_iconst (v := 4) hx hb dX5_readRow_24 (by decide) ?_
  refine lv_icmp_ne (tgt := 32) hx hb dX5_readRow_25 (by decide) (fun _ => ?_) (fun c9 => absurd c9 (by decide))
  refine lv_iload_n hx hb dX5_readRow_32 rfl (lv_at hl 0 rfl) ?_
  refine va_iast hx hb hK hP hD hS 1 0 rfl rfl (show vp_in 0 7 from by unfold vp_in; decide) dX5_readRow_33 (fun H locs hP hD hS => ?_)
  have hP : va_P E.1 vwCl [(h0, .inr (5, [.ref of, .ref k1, .ref k2, .ref k3, .ref k4, .int 0, .int 0, .int 0])), (k3, .inl (E.2 0, 7, .inl (upd (fun _ => 0) (Int32.toNatClampNeg 0) 0))), (k4, .inl (E.2 0, 7, .inl (fun _ => 0)))] H := hP
  have hD : va_D A [(h0, .inr (5, [.ref of, .ref k1, .ref k2, .ref k3, .ref k4, .int 0, .int 0, .int 0])), (k3, .inl (E.2 0, 7, .inl (upd (fun _ => 0) (Int32.toNatClampNeg 0) 0))), (k4, .inl (E.2 0, 7, .inl (fun _ => 0)))] := hD
  rw [upd_same] at hP hD
  have hP : va_P E.1 vwCl [(h0, .inr (5, [.ref of, .ref k1, .ref k2, .ref k3, .ref k4, .int 0, .int 0, .int 0])), (k3, .inl (E.2 0, 7, .inl (fun _ => 0))), (k4, .inl (E.2 0, 7, .inl (fun _ => 0)))] H := hP
  have hD : va_D A [(h0, .inr (5, [.ref of, .ref k1, .ref k2, .ref k3, .ref k4, .int 0, .int 0, .int 0])), (k3, .inl (E.2 0, 7, .inl (fun _ => 0))), (k4, .inl (E.2 0, 7, .inl (fun _ => 0)))] := hD
  refine lv_aload_n hx hb dX5_readRow_34 rfl (lv_at hl 2 rfl) ?_
  refine va_get (D := E.1) (ci := 5) (v := .ref k4) (C := RX5) (T := TX5) (N := 8) hx hb hts inX5 hown hK hP 0 rfl rfl 4 (by decide) fl19 (fun _ h9 => h9) rfl dX5_readRow_35 ?_
  refine lv_iload_n hx hb dX5_readRow_38 rfl (lv_at hl 1 rfl) ?_
  refine lv_iconst (v := (-1)) hx hb dX5_readRow_39 (by decide) ?_
  refine va_iast hx hb hK hP hD hS 2 0 rfl rfl (show vp_in 0 7 from by unfold vp_in; decide) dX5_readRow_40 (fun H locs hP hD hS => ?_)
  have hP : va_P E.1 vwCl [(h0, .inr (5, [.ref of, .ref k1, .ref k2, .ref k3, .ref k4, .int 0, .int 0, .int 0])), (k3, .inl (E.2 0, 7, .inl (fun _ => 0))), (k4, .inl (E.2 0, 7, .inl (upd (fun _ => 0) (Int32.toNatClampNeg 0) (-1))))] H := hP
  have hD : va_D A [(h0, .inr (5, [.ref of, .ref k1, .ref k2, .ref k3, .ref k4, .int 0, .int 0, .int 0])), (k3, .inl (E.2 0, 7, .inl (fun _ => 0))), (k4, .inl (E.2 0, 7, .inl (upd (fun _ => 0) (Int32.toNatClampNeg 0) (-1))))] := hD
  obtain ⟨f5, ef5⟩ : ∃ g : Nat → Int32, g = upd (fun _ => 0) (Int32.toNatClampNeg 0) (-1) := ⟨_, rfl⟩
  rw [← ef5] at hP hD
  refine lv_iinc (v := 1) (lv' := [(2, .int 1), (3, .int 0), (0, .ref h0), (1, .int 0)]) hx hb dX5_readRow_41 hl (k := 1) rfl (by decide) (by decide) rfl (fun ls hl => ?_)
  refine lv_goto (tgt := 2) hx hb dX5_readRow_44 (by decide) ?_
  refine lv_iload_n hx hb dX5_readRow_2 rfl (lv_at hl 0 rfl) ?_
  refine lv_bipush (v := 7) hx hb dX5_readRow_3 (by decide) ?_
  refine lv_icmp_ge (tgt := 47) hx hb dX5_readRow_5 (by decide) (fun c9 => absurd c9 (by decide)) (fun _ => ?_)
  refine lv_iload_n hx hb dX5_readRow_8 rfl (lv_at hl 3 rfl) ?_
  obtain ⟨tz6, hZtz6, hTtz6⟩ := hst.1
  refine va_getsN hx hb hZtz6 hS hown (va_Nw.use rfl (hkn.2.1 (.fieldLinkNest RX5 101 "BoatsHome" "ROW_WEIGHTS" "[I" "BoatsHome") (by decide +kernel))) (fun _ h9 => h9) dX5_readRow_9 ?_
  refine lv_iload_n hx hb dX5_readRow_12 rfl (lv_at hl 0 rfl) ?_
  refine va_ti (v := .int 3125) hx hb hTtz6 hS (show vp_in 1 7 from by unfold vp_in; decide) rfl dX5_readRow_13 ?_
  refine lv_idiv hx hb dX5_readRow_14 (by decide) ?_
  refine lv_topi (fun x7 ex7 => ?_)
  obtain rfl : x7 = 0 := ex7.trans (by decide +kernel)
  refine lv_iconst (v := 5) hx hb dX5_readRow_15 (by decide) ?_
  refine lv_irem hx hb dX5_readRow_16 (by decide) ?_
  refine lv_topi (fun x8 ex8 => ?_)
  obtain rfl : x8 = 0 := ex8.trans (by decide +kernel)
  refine lv_istore_n (lv' := [(3, .int 0), (2, .int 1), (0, .ref h0), (1, .int 0)]) hx hb dX5_readRow_17 rfl hl (by decide) rfl (fun ls hl => ?_)
  refine lv_aload_n hx hb dX5_readRow_18 rfl (lv_at hl 2 rfl) ?_
  refine va_get (D := E.1) (ci := 5) (v := .ref k3) (C := RX5) (T := TX5) (N := 8) hx hb hts inX5 hown hK hP 0 rfl rfl 3 (by decide) fl15 (fun _ h9 => h9) rfl dX5_readRow_19 ?_
  refine lv_iload_n hx hb dX5_readRow_22 rfl (lv_at hl 1 rfl) ?_
  refine lv_iload_n hx hb dX5_readRow_23 rfl (lv_at hl 0 rfl) ?_
  refine lv_iconst (v := 4) hx hb dX5_readRow_24 (by decide) ?_
  refine lv_icmp_ne (tgt := 32) hx hb dX5_readRow_25 (by decide) (fun _ => ?_) (fun c9 => absurd c9 (by decide))
  refine lv_iload_n hx hb dX5_readRow_32 rfl (lv_at hl 0 rfl) ?_
  refine va_iast hx hb hK hP hD hS 1 0 rfl rfl (show vp_in 1 7 from by unfold vp_in; decide) dX5_readRow_33 (fun H locs hP hD hS => ?_)
  have hP : va_P E.1 vwCl [(h0, .inr (5, [.ref of, .ref k1, .ref k2, .ref k3, .ref k4, .int 0, .int 0, .int 0])), (k3, .inl (E.2 0, 7, .inl (upd (fun _ => 0) (Int32.toNatClampNeg 1) 0))), (k4, .inl (E.2 0, 7, .inl f5))] H := hP
  have hD : va_D A [(h0, .inr (5, [.ref of, .ref k1, .ref k2, .ref k3, .ref k4, .int 0, .int 0, .int 0])), (k3, .inl (E.2 0, 7, .inl (upd (fun _ => 0) (Int32.toNatClampNeg 1) 0))), (k4, .inl (E.2 0, 7, .inl f5))] := hD
  rw [upd_same] at hP hD
  have hP : va_P E.1 vwCl [(h0, .inr (5, [.ref of, .ref k1, .ref k2, .ref k3, .ref k4, .int 0, .int 0, .int 0])), (k3, .inl (E.2 0, 7, .inl (fun _ => 0))), (k4, .inl (E.2 0, 7, .inl f5))] H := hP
  have hD : va_D A [(h0, .inr (5, [.ref of, .ref k1, .ref k2, .ref k3, .ref k4, .int 0, .int 0, .int 0])), (k3, .inl (E.2 0, 7, .inl (fun _ => 0))), (k4, .inl (E.2 0, 7, .inl f5))] := hD
  refine lv_aload_n hx hb dX5_readRow_34 rfl (lv_at hl 2 rfl) ?_
  refine va_get (D := E.1) (ci := 5) (v := .ref k4) (C := RX5) (T := TX5) (N := 8) hx hb hts inX5 hown hK hP 0 rfl rfl 4 (by decide) fl19 (fun _ h9 => h9) rfl dX5_readRow_35 ?_
  refine lv_iload_n hx hb dX5_readRow_38 rfl (lv_at hl 1 rfl) ?_
  refine lv_iconst (v := (-1)) hx hb dX5_readRow_39 (by decide) ?_
  refine va_iast hx hb hK hP hD hS 2 0 rfl rfl (show vp_in 1 7 from by unfold vp_in; decide) dX5_readRow_40 (fun H locs hP hD hS => ?_)
  have hP : va_P E.1 vwCl [(h0, .inr (5, [.ref of, .ref k1, .ref k2, .ref k3, .ref k4, .int 0, .int 0, .int 0])), (k3, .inl (E.2 0, 7, .inl (fun _ => 0))), (k4, .inl (E.2 0, 7, .inl (upd f5 (Int32.toNatClampNeg 1) (-1))))] H := hP
  have hD : va_D A [(h0, .inr (5, [.ref of, .ref k1, .ref k2, .ref k3, .ref k4, .int 0, .int 0, .int 0])), (k3, .inl (E.2 0, 7, .inl (fun _ => 0))), (k4, .inl (E.2 0, 7, .inl (upd f5 (Int32.toNatClampNeg 1) (-1))))] := hD
  obtain ⟨f10, ef10⟩ : ∃ g : Nat → Int32, g = upd f5 (Int32.toNatClampNeg 1) (-1) := ⟨_, rfl⟩
  rw [← ef10] at hP hD
  refine lv_iinc (v := 2) (lv' := [(2, .int 2), (3, .int 0), (0, .ref h0), (1, .int 0)]) hx hb dX5_readRow_41 hl (k := 1) rfl (by decide) (by decide) rfl (fun ls hl => ?_)
  refine lv_goto (tgt := 2) hx hb dX5_readRow_44 (by decide) ?_
  refine lv_iload_n hx hb dX5_readRow_2 rfl (lv_at hl 0 rfl) ?_
  refine lv_bipush (v := 7) hx hb dX5_readRow_3 (by decide) ?_
  refine lv_icmp_ge (tgt := 47) hx hb dX5_readRow_5 (by decide) (fun c9 => absurd c9 (by decide)) (fun _ => ?_)
  refine lv_iload_n hx hb dX5_readRow_8 rfl (lv_at hl 3 rfl) ?_
  obtain ⟨tz11, hZtz11, hTtz11⟩ := hst.1
  refine va_getsN hx hb hZtz11 hS hown (va_Nw.use rfl (hkn.2.1 (.fieldLinkNest RX5 101 "BoatsHome" "ROW_WEIGHTS" "[I" "BoatsHome") (by decide +kernel))) (fun _ h9 => h9) dX5_readRow_9 ?_
  refine lv_iload_n hx hb dX5_readRow_12 rfl (lv_at hl 0 rfl) ?_
  refine va_ti (v := .int 625) hx hb hTtz11 hS (show vp_in 2 7 from by unfold vp_in; decide) rfl dX5_readRow_13 ?_
  refine lv_idiv hx hb dX5_readRow_14 (by decide) ?_
  refine lv_topi (fun x12 ex12 => ?_)
  obtain rfl : x12 = 0 := ex12.trans (by decide +kernel)
  refine lv_iconst (v := 5) hx hb dX5_readRow_15 (by decide) ?_
  refine lv_irem hx hb dX5_readRow_16 (by decide) ?_
  refine lv_topi (fun x13 ex13 => ?_)
  obtain rfl : x13 = 0 := ex13.trans (by decide +kernel)
  refine lv_istore_n (lv' := [(3, .int 0), (2, .int 2), (0, .ref h0), (1, .int 0)]) hx hb dX5_readRow_17 rfl hl (by decide) rfl (fun ls hl => ?_)
  refine lv_aload_n hx hb dX5_readRow_18 rfl (lv_at hl 2 rfl) ?_
  refine va_get (D := E.1) (ci := 5) (v := .ref k3) (C := RX5) (T := TX5) (N := 8) hx hb hts inX5 hown hK hP 0 rfl rfl 3 (by decide) fl15 (fun _ h9 => h9) rfl dX5_readRow_19 ?_
  refine lv_iload_n hx hb dX5_readRow_22 rfl (lv_at hl 1 rfl) ?_
  refine lv_iload_n hx hb dX5_readRow_23 rfl (lv_at hl 0 rfl) ?_
  refine lv_iconst (v := 4) hx hb dX5_readRow_24 (by decide) ?_
  refine lv_icmp_ne (tgt := 32) hx hb dX5_readRow_25 (by decide) (fun _ => ?_) (fun c9 => absurd c9 (by decide))
  refine lv_iload_n hx hb dX5_readRow_32 rfl (lv_at hl 0 rfl) ?_
  refine va_iast hx hb hK hP hD hS 1 0 rfl rfl (show vp_in 2 7 from by unfold vp_in; decide) dX5_readRow_33 (fun H locs hP hD hS => ?_)
  have hP : va_P E.1 vwCl [(h0, .inr (5, [.ref of, .ref k1, .ref k2, .ref k3, .ref k4, .int 0, .int 0, .int 0])), (k3, .inl (E.2 0, 7, .inl (upd (fun _ => 0) (Int32.toNatClampNeg 2) 0))), (k4, .inl (E.2 0, 7, .inl f10))] H := hP
  have hD : va_D A [(h0, .inr (5, [.ref of, .ref k1, .ref k2, .ref k3, .ref k4, .int 0, .int 0, .int 0])), (k3, .inl (E.2 0, 7, .inl (upd (fun _ => 0) (Int32.toNatClampNeg 2) 0))), (k4, .inl (E.2 0, 7, .inl f10))] := hD
  rw [upd_same] at hP hD
  have hP : va_P E.1 vwCl [(h0, .inr (5, [.ref of, .ref k1, .ref k2, .ref k3, .ref k4, .int 0, .int 0, .int 0])), (k3, .inl (E.2 0, 7, .inl (fun _ => 0))), (k4, .inl (E.2 0, 7, .inl f10))] H := hP
  have hD : va_D A [(h0, .inr (5, [.ref of, .ref k1, .ref k2, .ref k3, .ref k4, .int 0, .int 0, .int 0])), (k3, .inl (E.2 0, 7, .inl (fun _ => 0))), (k4, .inl (E.2 0, 7, .inl f10))] := hD
  refine lv_aload_n hx hb dX5_readRow_34 rfl (lv_at hl 2 rfl) ?_
  refine va_get (D := E.1) (ci := 5) (v := .ref k4) (C := RX5) (T := TX5) (N := 8) hx hb hts inX5 hown hK hP 0 rfl rfl 4 (by decide) fl19 (fun _ h9 => h9) rfl dX5_readRow_35 ?_
  refine lv_iload_n hx hb dX5_readRow_38 rfl (lv_at hl 1 rfl) ?_
  refine lv_iconst (v := (-1)) hx hb dX5_readRow_39 (by decide) ?_
  refine va_iast hx hb hK hP hD hS 2 0 rfl rfl (show vp_in 2 7 from by unfold vp_in; decide) dX5_readRow_40 (fun H locs hP hD hS => ?_)
  have hP : va_P E.1 vwCl [(h0, .inr (5, [.ref of, .ref k1, .ref k2, .ref k3, .ref k4, .int 0, .int 0, .int 0])), (k3, .inl (E.2 0, 7, .inl (fun _ => 0))), (k4, .inl (E.2 0, 7, .inl (upd f10 (Int32.toNatClampNeg 2) (-1))))] H := hP
  have hD : va_D A [(h0, .inr (5, [.ref of, .ref k1, .ref k2, .ref k3, .ref k4, .int 0, .int 0, .int 0])), (k3, .inl (E.2 0, 7, .inl (fun _ => 0))), (k4, .inl (E.2 0, 7, .inl (upd f10 (Int32.toNatClampNeg 2) (-1))))] := hD
  obtain ⟨f15, ef15⟩ : ∃ g : Nat → Int32, g = upd f10 (Int32.toNatClampNeg 2) (-1) := ⟨_, rfl⟩
  rw [← ef15] at hP hD
  refine lv_iinc (v := 3) (lv' := [(2, .int 3), (3, .int 0), (0, .ref h0), (1, .int 0)]) hx hb dX5_readRow_41 hl (k := 1) rfl (by decide) (by decide) rfl (fun ls hl => ?_)
  refine lv_goto (tgt := 2) hx hb dX5_readRow_44 (by decide) ?_
  refine lv_iload_n hx hb dX5_readRow_2 rfl (lv_at hl 0 rfl) ?_
  refine lv_bipush (v := 7) hx hb dX5_readRow_3 (by decide) ?_
  refine lv_icmp_ge (tgt := 47) hx hb dX5_readRow_5 (by decide) (fun c9 => absurd c9 (by decide)) (fun _ => ?_)
  refine lv_iload_n hx hb dX5_readRow_8 rfl (lv_at hl 3 rfl) ?_
  obtain ⟨tz16, hZtz16, hTtz16⟩ := hst.1
  refine va_getsN hx hb hZtz16 hS hown (va_Nw.use rfl (hkn.2.1 (.fieldLinkNest RX5 101 "BoatsHome" "ROW_WEIGHTS" "[I" "BoatsHome") (by decide +kernel))) (fun _ h9 => h9) dX5_readRow_9 ?_
  refine lv_iload_n hx hb dX5_readRow_12 rfl (lv_at hl 0 rfl) ?_
  refine va_ti (v := .int 125) hx hb hTtz16 hS (show vp_in 3 7 from by unfold vp_in; decide) rfl dX5_readRow_13 ?_
  refine lv_idiv hx hb dX5_readRow_14 (by decide) ?_
  refine lv_topi (fun x17 ex17 => ?_)
  obtain rfl : x17 = 0 := ex17.trans (by decide +kernel)
  refine lv_iconst (v := 5) hx hb dX5_readRow_15 (by decide) ?_
  refine lv_irem hx hb dX5_readRow_16 (by decide) ?_
  refine lv_topi (fun x18 ex18 => ?_)
  obtain rfl : x18 = 0 := ex18.trans (by decide +kernel)
  refine lv_istore_n (lv' := [(3, .int 0), (2, .int 3), (0, .ref h0), (1, .int 0)]) hx hb dX5_readRow_17 rfl hl (by decide) rfl (fun ls hl => ?_)
  refine lv_aload_n hx hb dX5_readRow_18 rfl (lv_at hl 2 rfl) ?_
  refine va_get (D := E.1) (ci := 5) (v := .ref k3) (C := RX5) (T := TX5) (N := 8) hx hb hts inX5 hown hK hP 0 rfl rfl 3 (by decide) fl15 (fun _ h9 => h9) rfl dX5_readRow_19 ?_
  refine lv_iload_n hx hb dX5_readRow_22 rfl (lv_at hl 1 rfl) ?_
  refine lv_iload_n hx hb dX5_readRow_23 rfl (lv_at hl 0 rfl) ?_
  refine lv_iconst (v := 4) hx hb dX5_readRow_24 (by decide) ?_
  refine lv_icmp_ne (tgt := 32) hx hb dX5_readRow_25 (by decide) (fun _ => ?_) (fun c9 => absurd c9 (by decide))
  refine lv_iload_n hx hb dX5_readRow_32 rfl (lv_at hl 0 rfl) ?_
  refine va_iast hx hb hK hP hD hS 1 0 rfl rfl (show vp_in 3 7 from by unfold vp_in; decide) dX5_readRow_33 (fun H locs hP hD hS => ?_)
  have hP : va_P E.1 vwCl [(h0, .inr (5, [.ref of, .ref k1, .ref k2, .ref k3, .ref k4, .int 0, .int 0, .int 0])), (k3, .inl (E.2 0, 7, .inl (upd (fun _ => 0) (Int32.toNatClampNeg 3) 0))), (k4, .inl (E.2 0, 7, .inl f15))] H := hP
  have hD : va_D A [(h0, .inr (5, [.ref of, .ref k1, .ref k2, .ref k3, .ref k4, .int 0, .int 0, .int 0])), (k3, .inl (E.2 0, 7, .inl (upd (fun _ => 0) (Int32.toNatClampNeg 3) 0))), (k4, .inl (E.2 0, 7, .inl f15))] := hD
  rw [upd_same] at hP hD
  have hP : va_P E.1 vwCl [(h0, .inr (5, [.ref of, .ref k1, .ref k2, .ref k3, .ref k4, .int 0, .int 0, .int 0])), (k3, .inl (E.2 0, 7, .inl (fun _ => 0))), (k4, .inl (E.2 0, 7, .inl f15))] H := hP
  have hD : va_D A [(h0, .inr (5, [.ref of, .ref k1, .ref k2, .ref k3, .ref k4, .int 0, .int 0, .int 0])), (k3, .inl (E.2 0, 7, .inl (fun _ => 0))), (k4, .inl (E.2 0, 7, .inl f15))] := hD
  refine lv_aload_n hx hb dX5_readRow_34 rfl (lv_at hl 2 rfl) ?_
  refine va_get (D := E.1) (ci := 5) (v := .ref k4) (C := RX5) (T := TX5) (N := 8) hx hb hts inX5 hown hK hP 0 rfl rfl 4 (by decide) fl19 (fun _ h9 => h9) rfl dX5_readRow_35 ?_
  refine lv_iload_n hx hb dX5_readRow_38 rfl (lv_at hl 1 rfl) ?_
  refine lv_iconst (v := (-1)) hx hb dX5_readRow_39 (by decide) ?_
  refine va_iast hx hb hK hP hD hS 2 0 rfl rfl (show vp_in 3 7 from by unfold vp_in; decide) dX5_readRow_40 (fun H locs hP hD hS => ?_)
  have hP : va_P E.1 vwCl [(h0, .inr (5, [.ref of, .ref k1, .ref k2, .ref k3, .ref k4, .int 0, .int 0, .int 0])), (k3, .inl (E.2 0, 7, .inl (fun _ => 0))), (k4, .inl (E.2 0, 7, .inl (upd f15 (Int32.toNatClampNeg 3) (-1))))] H := hP
  have hD : va_D A [(h0, .inr (5, [.ref of, .ref k1, .ref k2, .ref k3, .ref k4, .int 0, .int 0, .int 0])), (k3, .inl (E.2 0, 7, .inl (fun _ => 0))), (k4, .inl (E.2 0, 7, .inl (upd f15 (Int32.toNatClampNeg 3) (-1))))] := hD
  obtain ⟨f20, ef20⟩ : ∃ g : Nat → Int32, g = upd f15 (Int32.toNatClampNeg 3) (-1) := ⟨_, rfl⟩
  rw [← ef20] at hP hD
  refine lv_iinc (v := 4) (lv' := [(2, .int 4), (3, .int 0), (0, .ref h0), (1, .int 0)]) hx hb dX5_readRow_41 hl (k := 1) rfl (by decide) (by decide) rfl (fun ls hl => ?_)
  refine lv_goto (tgt := 2) hx hb dX5_readRow_44 (by decide) ?_
  refine lv_iload_n hx hb dX5_readRow_2 rfl (lv_at hl 0 rfl) ?_
  refine lv_bipush (v := 7) hx hb dX5_readRow_3 (by decide) ?_
  refine lv_icmp_ge (tgt := 47) hx hb dX5_readRow_5 (by decide) (fun c9 => absurd c9 (by decide)) (fun _ => ?_)
  refine lv_iload_n hx hb dX5_readRow_8 rfl (lv_at hl 3 rfl) ?_
  obtain ⟨tz21, hZtz21, hTtz21⟩ := hst.1
  refine va_getsN hx hb hZtz21 hS hown (va_Nw.use rfl (hkn.2.1 (.fieldLinkNest RX5 101 "BoatsHome" "ROW_WEIGHTS" "[I" "BoatsHome") (by decide +kernel))) (fun _ h9 => h9) dX5_readRow_9 ?_
  refine lv_iload_n hx hb dX5_readRow_12 rfl (lv_at hl 0 rfl) ?_
  refine va_ti (v := .int 25) hx hb hTtz21 hS (show vp_in 4 7 from by unfold vp_in; decide) rfl dX5_readRow_13 ?_
  refine lv_idiv hx hb dX5_readRow_14 (by decide) ?_
  refine lv_topi (fun x22 ex22 => ?_)
  obtain rfl : x22 = 0 := ex22.trans (by decide +kernel)
  refine lv_iconst (v := 5) hx hb dX5_readRow_15 (by decide) ?_
  refine lv_irem hx hb dX5_readRow_16 (by decide) ?_
  refine lv_topi (fun x23 ex23 => ?_)
  obtain rfl : x23 = 0 := ex23.trans (by decide +kernel)
  refine lv_istore_n (lv' := [(3, .int 0), (2, .int 4), (0, .ref h0), (1, .int 0)]) hx hb dX5_readRow_17 rfl hl (by decide) rfl (fun ls hl => ?_)
  refine lv_aload_n hx hb dX5_readRow_18 rfl (lv_at hl 2 rfl) ?_
  refine va_get (D := E.1) (ci := 5) (v := .ref k3) (C := RX5) (T := TX5) (N := 8) hx hb hts inX5 hown hK hP 0 rfl rfl 3 (by decide) fl15 (fun _ h9 => h9) rfl dX5_readRow_19 ?_
  refine lv_iload_n hx hb dX5_readRow_22 rfl (lv_at hl 1 rfl) ?_
  refine lv_iload_n hx hb dX5_readRow_23 rfl (lv_at hl 0 rfl) ?_
  refine lv_iconst (v := 4) hx hb dX5_readRow_24 (by decide) ?_
  refine lv_icmp_ne (tgt := 32) hx hb dX5_readRow_25 (by decide) (fun _ => ?_) (fun c9 => absurd c9 (by decide))
  refine lv_iload_n hx hb dX5_readRow_32 rfl (lv_at hl 0 rfl) ?_
  refine va_iast hx hb hK hP hD hS 1 0 rfl rfl (show vp_in 4 7 from by unfold vp_in; decide) dX5_readRow_33 (fun H locs hP hD hS => ?_)
  have hP : va_P E.1 vwCl [(h0, .inr (5, [.ref of, .ref k1, .ref k2, .ref k3, .ref k4, .int 0, .int 0, .int 0])), (k3, .inl (E.2 0, 7, .inl (upd (fun _ => 0) (Int32.toNatClampNeg 4) 0))), (k4, .inl (E.2 0, 7, .inl f20))] H := hP
  have hD : va_D A [(h0, .inr (5, [.ref of, .ref k1, .ref k2, .ref k3, .ref k4, .int 0, .int 0, .int 0])), (k3, .inl (E.2 0, 7, .inl (upd (fun _ => 0) (Int32.toNatClampNeg 4) 0))), (k4, .inl (E.2 0, 7, .inl f20))] := hD
  rw [upd_same] at hP hD
  have hP : va_P E.1 vwCl [(h0, .inr (5, [.ref of, .ref k1, .ref k2, .ref k3, .ref k4, .int 0, .int 0, .int 0])), (k3, .inl (E.2 0, 7, .inl (fun _ => 0))), (k4, .inl (E.2 0, 7, .inl f20))] H := hP
  have hD : va_D A [(h0, .inr (5, [.ref of, .ref k1, .ref k2, .ref k3, .ref k4, .int 0, .int 0, .int 0])), (k3, .inl (E.2 0, 7, .inl (fun _ => 0))), (k4, .inl (E.2 0, 7, .inl f20))] := hD
  refine lv_aload_n hx hb dX5_readRow_34 rfl (lv_at hl 2 rfl) ?_
  refine va_get (D := E.1) (ci := 5) (v := .ref k4) (C := RX5) (T := TX5) (N := 8) hx hb hts inX5 hown hK hP 0 rfl rfl 4 (by decide) fl19 (fun _ h9 => h9) rfl dX5_readRow_35 ?_
  refine lv_iload_n hx hb dX5_readRow_38 rfl (lv_at hl 1 rfl) ?_
  refine lv_iconst (v := (-1)) hx hb dX5_readRow_39 (by decide) ?_
  refine va_iast hx hb hK hP hD hS 2 0 rfl rfl (show vp_in 4 7 from by unfold vp_in; decide) dX5_readRow_40 (fun H locs hP hD hS => ?_)
  have hP : va_P E.1 vwCl [(h0, .inr (5, [.ref of, .ref k1, .ref k2, .ref k3, .ref k4, .int 0, .int 0, .int 0])), (k3, .inl (E.2 0, 7, .inl (fun _ => 0))), (k4, .inl (E.2 0, 7, .inl (upd f20 (Int32.toNatClampNeg 4) (-1))))] H := hP
  have hD : va_D A [(h0, .inr (5, [.ref of, .ref k1, .ref k2, .ref k3, .ref k4, .int 0, .int 0, .int 0])), (k3, .inl (E.2 0, 7, .inl (fun _ => 0))), (k4, .inl (E.2 0, 7, .inl (upd f20 (Int32.toNatClampNeg 4) (-1))))] := hD
  obtain ⟨f25, ef25⟩ : ∃ g : Nat → Int32, g = upd f20 (Int32.toNatClampNeg 4) (-1) := ⟨_, rfl⟩
  rw [← ef25] at hP hD
  refine lv_iinc (v := 5) (lv' := [(2, .int 5), (3, .int 0), (0, .ref h0), (1, .int 0)]) hx hb dX5_readRow_41 hl (k := 1) rfl (by decide) (by decide) rfl (fun ls hl => ?_)
  refine lv_goto (tgt := 2) hx hb dX5_readRow_44 (by decide) ?_
  refine lv_iload_n hx hb dX5_readRow_2 rfl (lv_at hl 0 rfl) ?_
  refine lv_bipush (v := 7) hx hb dX5_readRow_3 (by decide) ?_
  refine lv_icmp_ge (tgt := 47) hx hb dX5_readRow_5 (by decide) (fun c9 => absurd c9 (by decide)) (fun _ => ?_)
  refine lv_iload_n hx hb dX5_readRow_8 rfl (lv_at hl 3 rfl) ?_
  obtain ⟨tz26, hZtz26, hTtz26⟩ := hst.1
  refine va_getsN hx hb hZtz26 hS hown (va_Nw.use rfl (hkn.2.1 (.fieldLinkNest RX5 101 "BoatsHome" "ROW_WEIGHTS" "[I" "BoatsHome") (by decide +kernel))) (fun _ h9 => h9) dX5_readRow_9 ?_
  refine lv_iload_n hx hb dX5_readRow_12 rfl (lv_at hl 0 rfl) ?_
  refine va_ti (v := .int 5) hx hb hTtz26 hS (show vp_in 5 7 from by unfold vp_in; decide) rfl dX5_readRow_13 ?_
  refine lv_idiv hx hb dX5_readRow_14 (by decide) ?_
  refine lv_topi (fun x27 ex27 => ?_)
  obtain rfl : x27 = 0 := ex27.trans (by decide +kernel)
  refine lv_iconst (v := 5) hx hb dX5_readRow_15 (by decide) ?_
  refine lv_irem hx hb dX5_readRow_16 (by decide) ?_
  refine lv_topi (fun x28 ex28 => ?_)
  obtain rfl : x28 = 0 := ex28.trans (by decide +kernel)
  refine lv_istore_n (lv' := [(3, .int 0), (2, .int 5), (0, .ref h0), (1, .int 0)]) hx hb dX5_readRow_17 rfl hl (by decide) rfl (fun ls hl => ?_)
  refine lv_aload_n hx hb dX5_readRow_18 rfl (lv_at hl 2 rfl) ?_
  refine va_get (D := E.1) (ci := 5) (v := .ref k3) (C := RX5) (T := TX5) (N := 8) hx hb hts inX5 hown hK hP 0 rfl rfl 3 (by decide) fl15 (fun _ h9 => h9) rfl dX5_readRow_19 ?_
  refine lv_iload_n hx hb dX5_readRow_22 rfl (lv_at hl 1 rfl) ?_
  refine lv_iload_n hx hb dX5_readRow_23 rfl (lv_at hl 0 rfl) ?_
  refine lv_iconst (v := 4) hx hb dX5_readRow_24 (by decide) ?_
  refine lv_icmp_ne (tgt := 32) hx hb dX5_readRow_25 (by decide) (fun _ => ?_) (fun c9 => absurd c9 (by decide))
  refine lv_iload_n hx hb dX5_readRow_32 rfl (lv_at hl 0 rfl) ?_
  refine va_iast hx hb hK hP hD hS 1 0 rfl rfl (show vp_in 5 7 from by unfold vp_in; decide) dX5_readRow_33 (fun H locs hP hD hS => ?_)
  have hP : va_P E.1 vwCl [(h0, .inr (5, [.ref of, .ref k1, .ref k2, .ref k3, .ref k4, .int 0, .int 0, .int 0])), (k3, .inl (E.2 0, 7, .inl (upd (fun _ => 0) (Int32.toNatClampNeg 5) 0))), (k4, .inl (E.2 0, 7, .inl f25))] H := hP
  have hD : va_D A [(h0, .inr (5, [.ref of, .ref k1, .ref k2, .ref k3, .ref k4, .int 0, .int 0, .int 0])), (k3, .inl (E.2 0, 7, .inl (upd (fun _ => 0) (Int32.toNatClampNeg 5) 0))), (k4, .inl (E.2 0, 7, .inl f25))] := hD
  rw [upd_same] at hP hD
  have hP : va_P E.1 vwCl [(h0, .inr (5, [.ref of, .ref k1, .ref k2, .ref k3, .ref k4, .int 0, .int 0, .int 0])), (k3, .inl (E.2 0, 7, .inl (fun _ => 0))), (k4, .inl (E.2 0, 7, .inl f25))] H := hP
  have hD : va_D A [(h0, .inr (5, [.ref of, .ref k1, .ref k2, .ref k3, .ref k4, .int 0, .int 0, .int 0])), (k3, .inl (E.2 0, 7, .inl (fun _ => 0))), (k4, .inl (E.2 0, 7, .inl f25))] := hD
  refine lv_aload_n hx hb dX5_readRow_34 rfl (lv_at hl 2 rfl) ?_
  refine va_get (D := E.1) (ci := 5) (v := .ref k4) (C := RX5) (T := TX5) (N := 8) hx hb hts inX5 hown hK hP 0 rfl rfl 4 (by decide) fl19 (fun _ h9 => h9) rfl dX5_readRow_35 ?_
  refine lv_iload_n hx hb dX5_readRow_38 rfl (lv_at hl 1 rfl) ?_
  refine lv_iconst (v := (-1)) hx hb dX5_readRow_39 (by decide) ?_
  refine va_iast hx hb hK hP hD hS 2 0 rfl rfl (show vp_in 5 7 from by unfold vp_in; decide) dX5_readRow_40 (fun H locs hP hD hS => ?_)
  have hP : va_P E.1 vwCl [(h0, .inr (5, [.ref of, .ref k1, .ref k2, .ref k3, .ref k4, .int 0, .int 0, .int 0])), (k3, .inl (E.2 0, 7, .inl (fun _ => 0))), (k4, .inl (E.2 0, 7, .inl (upd f25 (Int32.toNatClampNeg 5) (-1))))] H := hP
  have hD : va_D A [(h0, .inr (5, [.ref of, .ref k1, .ref k2, .ref k3, .ref k4, .int 0, .int 0, .int 0])), (k3, .inl (E.2 0, 7, .inl (fun _ => 0))), (k4, .inl (E.2 0, 7, .inl (upd f25 (Int32.toNatClampNeg 5) (-1))))] := hD
  obtain ⟨f30, ef30⟩ : ∃ g : Nat → Int32, g = upd f25 (Int32.toNatClampNeg 5) (-1) := ⟨_, rfl⟩
  rw [← ef30] at hP hD
  refine lv_iinc (v := 6) (lv' := [(2, .int 6), (3, .int 0), (0, .ref h0), (1, .int 0)]) hx hb dX5_readRow_41 hl (k := 1) rfl (by decide) (by decide) rfl (fun ls hl => ?_)
  refine lv_goto (tgt := 2) hx hb dX5_readRow_44 (by decide) ?_
  refine lv_iload_n hx hb dX5_readRow_2 rfl (lv_at hl 0 rfl) ?_
  refine lv_bipush (v := 7) hx hb dX5_readRow_3 (by decide) ?_
  refine lv_icmp_ge (tgt := 47) hx hb dX5_readRow_5 (by decide) (fun c9 => absurd c9 (by decide)) (fun _ => ?_)
  refine lv_iload_n hx hb dX5_readRow_8 rfl (lv_at hl 3 rfl) ?_
  obtain ⟨tz31, hZtz31, hTtz31⟩ := hst.1
  refine va_getsN hx hb hZtz31 hS hown (va_Nw.use rfl (hkn.2.1 (.fieldLinkNest RX5 101 "BoatsHome" "ROW_WEIGHTS" "[I" "BoatsHome") (by decide +kernel))) (fun _ h9 => h9) dX5_readRow_9 ?_
  refine lv_iload_n hx hb dX5_readRow_12 rfl (lv_at hl 0 rfl) ?_
  refine va_ti (v := .int 1) hx hb hTtz31 hS (show vp_in 6 7 from by unfold vp_in; decide) rfl dX5_readRow_13 ?_
  refine lv_idiv hx hb dX5_readRow_14 (by decide) ?_
  refine lv_topi (fun x32 ex32 => ?_)
  obtain rfl : x32 = 0 := ex32.trans (by decide +kernel)
  refine lv_iconst (v := 5) hx hb dX5_readRow_15 (by decide) ?_
  refine lv_irem hx hb dX5_readRow_16 (by decide) ?_
  refine lv_topi (fun x33 ex33 => ?_)
  obtain rfl : x33 = 0 := ex33.trans (by decide +kernel)
  refine lv_istore_n (lv' := [(3, .int 0), (2, .int 6), (0, .ref h0), (1, .int 0)]) hx hb dX5_readRow_17 rfl hl (by decide) rfl (fun ls hl => ?_)
  refine lv_aload_n hx hb dX5_readRow_18 rfl (lv_at hl 2 rfl) ?_
  refine va_get (D := E.1) (ci := 5) (v := .ref k3) (C := RX5) (T := TX5) (N := 8) hx hb hts inX5 hown hK hP 0 rfl rfl 3 (by decide) fl15 (fun _ h9 => h9) rfl dX5_readRow_19 ?_
  refine lv_iload_n hx hb dX5_readRow_22 rfl (lv_at hl 1 rfl) ?_
  refine lv_iload_n hx hb dX5_readRow_23 rfl (lv_at hl 0 rfl) ?_
  refine lv_iconst (v := 4) hx hb dX5_readRow_24 (by decide) ?_
  refine lv_icmp_ne (tgt := 32) hx hb dX5_readRow_25 (by decide) (fun _ => ?_) (fun c9 => absurd c9 (by decide))
  refine lv_iload_n hx hb dX5_readRow_32 rfl (lv_at hl 0 rfl) ?_
  refine va_iast hx hb hK hP hD hS 1 0 rfl rfl (show vp_in 6 7 from by unfold vp_in; decide) dX5_readRow_33 (fun H locs hP hD hS => ?_)
  have hP : va_P E.1 vwCl [(h0, .inr (5, [.ref of, .ref k1, .ref k2, .ref k3, .ref k4, .int 0, .int 0, .int 0])), (k3, .inl (E.2 0, 7, .inl (upd (fun _ => 0) (Int32.toNatClampNeg 6) 0))), (k4, .inl (E.2 0, 7, .inl f30))] H := hP
  have hD : va_D A [(h0, .inr (5, [.ref of, .ref k1, .ref k2, .ref k3, .ref k4, .int 0, .int 0, .int 0])), (k3, .inl (E.2 0, 7, .inl (upd (fun _ => 0) (Int32.toNatClampNeg 6) 0))), (k4, .inl (E.2 0, 7, .inl f30))] := hD
  rw [upd_same] at hP hD
  have hP : va_P E.1 vwCl [(h0, .inr (5, [.ref of, .ref k1, .ref k2, .ref k3, .ref k4, .int 0, .int 0, .int 0])), (k3, .inl (E.2 0, 7, .inl (fun _ => 0))), (k4, .inl (E.2 0, 7, .inl f30))] H := hP
  have hD : va_D A [(h0, .inr (5, [.ref of, .ref k1, .ref k2, .ref k3, .ref k4, .int 0, .int 0, .int 0])), (k3, .inl (E.2 0, 7, .inl (fun _ => 0))), (k4, .inl (E.2 0, 7, .inl f30))] := hD
  refine lv_aload_n hx hb dX5_readRow_34 rfl (lv_at hl 2 rfl) ?_
  refine va_get (D := E.1) (ci := 5) (v := .ref k4) (C := RX5) (T := TX5) (N := 8) hx hb hts inX5 hown hK hP 0 rfl rfl 4 (by decide) fl19 (fun _ h9 => h9) rfl dX5_readRow_35 ?_
  refine lv_iload_n hx hb dX5_readRow_38 rfl (lv_at hl 1 rfl) ?_
  refine lv_iconst (v := (-1)) hx hb dX5_readRow_39 (by decide) ?_
  refine va_iast hx hb hK hP hD hS 2 0 rfl rfl (show vp_in 6 7 from by unfold vp_in; decide) dX5_readRow_40 (fun H locs hP hD hS => ?_)
  have hP : va_P E.1 vwCl [(h0, .inr (5, [.ref of, .ref k1, .ref k2, .ref k3, .ref k4, .int 0, .int 0, .int 0])), (k3, .inl (E.2 0, 7, .inl (fun _ => 0))), (k4, .inl (E.2 0, 7, .inl (upd f30 (Int32.toNatClampNeg 6) (-1))))] H := hP
  have hD : va_D A [(h0, .inr (5, [.ref of, .ref k1, .ref k2, .ref k3, .ref k4, .int 0, .int 0, .int 0])), (k3, .inl (E.2 0, 7, .inl (fun _ => 0))), (k4, .inl (E.2 0, 7, .inl (upd f30 (Int32.toNatClampNeg 6) (-1))))] := hD
  obtain ⟨f35, ef35⟩ : ∃ g : Nat → Int32, g = upd f30 (Int32.toNatClampNeg 6) (-1) := ⟨_, rfl⟩
  rw [← ef35] at hP hD
  refine lv_iinc (v := 7) (lv' := [(2, .int 7), (3, .int 0), (0, .ref h0), (1, .int 0)]) hx hb dX5_readRow_41 hl (k := 1) rfl (by decide) (by decide) rfl (fun ls hl => ?_)
  refine lv_goto (tgt := 2) hx hb dX5_readRow_44 (by decide) ?_
  refine lv_iload_n hx hb dX5_readRow_2 rfl (lv_at hl 0 rfl) ?_
  refine lv_bipush (v := 7) hx hb dX5_readRow_3 (by decide) ?_
  refine lv_icmp_ge (tgt := 47) hx hb dX5_readRow_5 (by decide) (fun _ => ?_) (fun c9 => absurd c9 (by decide))
  have hP9 := hP.sub (ws' := [(h0, .inr (5, [.ref of, .ref k1, .ref k2, .ref k3, .ref k4, .int 0, .int 0, .int 0])), (k3, .inl (E.2 0, 7, .inl (fun _ => 0))), (k4, .inl (E.2 0, 7, .inl f35))]) [0, 1, 2] rfl
  have hD9 := hD.sub (ws' := [(h0, .inr (5, [.ref of, .ref k1, .ref k2, .ref k3, .ref k4, .int 0, .int 0, .int 0])), (k3, .inl (E.2 0, 7, .inl (fun _ => 0))), (k4, .inl (E.2 0, 7, .inl f35))]) [0, 1, 2] (by decide) rfl
  exact W.vret hx hb hr (fun t ht hW => ⟨⟨((fun _ => 0), f35), rfl, trivial, by rw [ht]; exact hP9, hD9⟩, hS.F ht⟩) hS.2.2 dX5_readRow_47
set_option maxHeartbeats 4000000 in
set_option maxRecDepth 100000 in
theorem c_X5_choose (l : Launch) (E : vE) (h0 : Nat) (of : Nat) (k1 : Nat) (k2 : Nat) (k3 : Nat) (k4 : Nat) (g1 : Nat) (g2 : Nat) (g3 : Nat) (g4 : Nat) (g5 : Nat) (g6 : Nat) (g7 : Nat) (g8 : Nat) (fj : Nat → Int64) (sz : Nat) (hl0 : fj 0 = 0) : Met l yX5_choose wsX5_choose ({ frames := 1, cells := 0, slots := 0, locals := 24 }) (pcW E [.ref h0] sz [(h0, .inr (5, [.ref of, .ref k1, .ref k2, .ref k3, .ref k4, .int 0, .int 0, .int 0])), (of, .inr (2, [.ref g1, .ref g2, .ref g3, .ref g4, .ref g5, .int 0, .ref g6, .ref g7, .ref g8])), (k2, .inl (E.2 2, 128, .inr (.inl fj))), (k3, .inl (E.2 0, 7, .inl (fun _ => 0))), (k4, .inl (E.2 0, 7, .inl (fun _ => 0)))]) (va_Qv (fun (u : (Nat → Int32) × (Nat → Int32)) => match u with | (f3, f4) => True) (fun (u : (Nat → Int32) × (Nat → Int32)) (t : State) => match u with | (f3, f4) => wB E (va_A [(h0, .inr (5, [.ref of, .ref k1, .ref k2, .ref k3, .ref k4, .int 0, .int 0, .int 0])), (of, .inr (2, [.ref g1, .ref g2, .ref g3, .ref g4, .ref g5, .int 0, .ref g6, .ref g7, .ref g8])), (k2, .inl (E.2 2, 128, .inr (.inl fj))), (k3, .inl (E.2 0, 7, .inl (fun _ => 0))), (k4, .inl (E.2 0, 7, .inl (fun _ => 0)))] sz) [(h0, .inr (5, [.ref of, .ref k1, .ref k2, .ref k3, .ref k4, .int 0, .int 0, .int 0])), (of, .inr (2, [.ref g1, .ref g2, .ref g3, .ref g4, .ref g5, .int 0, .ref g6, .ref g7, .ref g8])), (k2, .inl (E.2 2, 128, .inr (.inl fj))), (k3, .inl (E.2 0, 7, .inl f3)), (k4, .inl (E.2 0, 7, .inl f4))] t) (va_A [(h0, .inr (5, [.ref of, .ref k1, .ref k2, .ref k3, .ref k4, .int 0, .int 0, .int 0])), (of, .inr (2, [.ref g1, .ref g2, .ref g3, .ref g4, .ref g5, .int 0, .ref g6, .ref g7, .ref g8])), (k2, .inl (E.2 2, 128, .inr (.inl fj))), (k3, .inl (E.2 0, 7, .inl (fun _ => 0))), (k4, .inl (E.2 0, 7, .inl (fun _ => 0)))] sz)) 0 0 (va_A [(h0, .inr (5, [.ref of, .ref k1, .ref k2, .ref k3, .ref k4, .int 0, .int 0, .int 0])), (of, .inr (2, [.ref g1, .ref g2, .ref g3, .ref g4, .ref g5, .int 0, .ref g6, .ref g7, .ref g8])), (k2, .inl (E.2 2, 128, .inr (.inl fj))), (k3, .inl (E.2 0, 7, .inl (fun _ => 0))), (k4, .inl (E.2 0, 7, .inl (fun _ => 0)))] sz) := by
  refine Met.ofW (cc := cX5_choose) (maxL := 8) (ret := none) (by decide) rfl ?_
  intro p e s m args below meth c s₁ B hml hv
  obtain ⟨rfl, hsz, hP, hkn, hD0, hst⟩ := hv
  have hx := B.exec
  have hb := B.bytes
  have hr := B.returns
  have hts := atoms_spec (ws := wsX5_choose) B.pre
  have hown : s.vm.findClass RX5 = some m.cls := findClass_of_methodNamed B.named
  have hlocks := B.notSynchronized
  subst hsz
  have hD := hD0.self (sz := s.heap.size)
  have hK := hkn.1
  have hAO := hkn.2.2
  generalize hAe : va_A [(h0, .inr (5, [.ref of, .ref k1, .ref k2, .ref k3, .ref k4, .int 0, .int 0, .int 0])), (of, .inr (2, [.ref g1, .ref g2, .ref g3, .ref g4, .ref g5, .int 0, .ref g6, .ref g7, .ref g8])), (k2, .inl (E.2 2, 128, .inr (.inl fj))), (k3, .inl (E.2 0, 7, .inl (fun _ => 0))), (k4, .inl (E.2 0, 7, .inl (fun _ => 0)))] s.heap.size = A at hD hst ⊢
  have hA : ∀ q : Nat, s.heap.size ≤ q → A q := fun q h => by rw [← hAe]; exact Or.inr h
  have hS : va_S A s.heap s.heap [] := va_S.rf
  have hP : va_P E.1 vwCl [(h0, .inr (5, [.ref of, .ref k1, .ref k2, .ref k3, .ref k4, .int 0, .int 0, .int 0])), (of, .inr (2, [.ref g1, .ref g2, .ref g3, .ref g4, .ref g5, .int 0, .ref g6, .ref g7, .ref g8])), (k2, .inl (E.2 2, 128, .inr (.inl fj))), (k3, .inl (E.2 0, 7, .inl (fun _ => 0))), (k4, .inl (E.2 0, 7, .inl (fun _ => 0)))] s.heap := hP
  have hl := lv_entry ([.ref h0]) (n := 8) (Nat.le_of_ble_eq_true rfl)
  rw [lg_entry_eq]
  generalize (lg_sl ([.ref h0]) ++ List.replicate (8 - (lg_sl ([.ref h0])).length) Slot.unset).toArray = ls at hl ⊢
  have hl : lv_has ls 8 [(0, .ref h0)] := hl
  have fl9 := hts (.fieldLink RX5 9 "BoatsHome$Plan" "least" "[J") (by decide +kernel)
  have fl26 := hts (.fieldLink RX5 26 "BoatsHome$Plan" "done" "I") (by decide +kernel)
  have fl30 := hts (.fieldLink RX5 30 "BoatsHome$Plan" "flightSum" "I") (by decide +kernel)
  have fl33 := hts (.fieldLink RX5 33 "BoatsHome$Plan" "offers" "LBoatsHome$Offers;") (by decide +kernel)
  have fl72 := hts (.fieldLink RX5 72 "BoatsHome$Offers" "size" "I") (by decide +kernel)
  have inX2 : ∀ w ∈ u_ws RX2 TX2 9, w ∈ wsX5_choose := by decide +kernel
  have inX5 : ∀ w ∈ u_ws RX5 TX5 8, w ∈ wsX5_choose := by decide +kernel
  refine lv_iconst (v := 1) hx hb dX5_choose_0 (by decide) ?_
  refine lv_aload_n hx hb dX5_choose_1 rfl (lv_at hl 0 rfl) ?_
  refine va_get (D := E.1) (ci := 5) (v := .ref of) (C := RX5) (T := TX5) (N := 8) hx hb hts inX5 hown hK hP 0 rfl rfl 0 (by decide) fl33 (fun _ h9 => h9) rfl dX5_choose_2 ?_
  refine va_get (D := E.1) (ci := 2) (v := .int 0) (C := RX2) (T := TX2) (N := 9) hx hb hts inX2 hown hK hP 1 rfl rfl 5 (by decide) fl72 (fun _ h9 => h9) rfl dX5_choose_5 ?_
  refine lv_ishl hx hb dX5_choose_8 ?_
  refine lv_topi (fun x1 ex1 => ?_)
  obtain rfl : x1 = 1 := ex1.trans (by decide +kernel)
  refine lv_iconst (v := 1) hx hb dX5_choose_9 (by decide) ?_
  refine lv_isub hx hb dX5_choose_10 ?_
  refine lv_topi (fun x2 ex2 => ?_)
  obtain rfl : x2 = 0 := ex2.trans (by decide +kernel)
  refine lv_istore_n (lv' := [(1, .int 0), (0, .ref h0)]) hx hb dX5_choose_11 rfl hl (by decide) rfl (fun ls hl => ?_)
  refine lv_ldc2 (v := 1152921504606846976) hx hb hown (hts (.constantLong RX5 46 1152921504606846976) (by decide +kernel)) dX5_choose_12 ?_
  refine lv_lstore_n (lv' := [(2, .long 1152921504606846976), (1, .int 0), (0, .ref h0)]) hx hb dX5_choose_15 rfl hl (by decide) rfl (fun ls hl => ?_)
  refine lv_aload_n hx hb dX5_choose_16 rfl (lv_at hl 2 rfl) ?_
  refine lv_iconst (v := 0) hx hb dX5_choose_17 (by decide) ?_
  refine va_put (D := E.1) (ci := 5) (v := .int 0) (ty := .int) (C := RX5) (T := TX5) (N := 8) hx hb hts inX5 tyX5 tyX5_ok nmX5 hown hK hP hD hS 0 rfl rfl 6 (by decide) fl26 (fun _ h9 => h9) rfl (by decide +kernel) rfl rfl (Nat.le_of_ble_eq_true rfl) dX5_choose_18 (fun H locs hP hD hS => ?_)
  have hP : va_P E.1 vwCl [(h0, .inr (5, [.ref of, .ref k1, .ref k2, .ref k3, .ref k4, .int 0, .int 0, .int 0])), (of, .inr (2, [.ref g1, .ref g2, .ref g3, .ref g4, .ref g5, .int 0, .ref g6, .ref g7, .ref g8])), (k2, .inl (E.2 2, 128, .inr (.inl fj))), (k3, .inl (E.2 0, 7, .inl (fun _ => 0))), (k4, .inl (E.2 0, 7, .inl (fun _ => 0)))] H := hP
  have hD : va_D A [(h0, .inr (5, [.ref of, .ref k1, .ref k2, .ref k3, .ref k4, .int 0, .int 0, .int 0])), (of, .inr (2, [.ref g1, .ref g2, .ref g3, .ref g4, .ref g5, .int 0, .ref g6, .ref g7, .ref g8])), (k2, .inl (E.2 2, 128, .inr (.inl fj))), (k3, .inl (E.2 0, 7, .inl (fun _ => 0))), (k4, .inl (E.2 0, 7, .inl (fun _ => 0)))] := hD
  refine lv_iconst (v := 0) hx hb dX5_choose_21 (by decide) ?_
  refine lv_istore (lv' := [(4, .int 0), (2, .long 1152921504606846976), (1, .int 0), (0, .ref h0)]) hx hb dX5_choose_22 hl (by decide) rfl (fun ls hl => ?_)
  refine lv_iload hx hb dX5_choose_24 (lv_at hl 0 rfl) ?_
  refine lv_iload_n hx hb dX5_choose_26 rfl (lv_at hl 2 rfl) ?_
  refine lv_icmp_gt (tgt := 114) hx hb dX5_choose_27 (by decide) (fun c9 => absurd c9 (by decide)) (fun _ => ?_)
  refine lv_iload hx hb dX5_choose_30 (lv_at hl 0 rfl) ?_
  have hPc := hP.sub (ws' := []) [] rfl
  have hDc := hD.sub (ws' := []) [] (by decide) rfl
  have hFc := va_free (wc := []) hD hS hA [] rfl
  refine va_calli (va_runS (As := [.int 0]) (rest := []) ⟨hx, hb, hml, hown, hts⟩ (c_J6_bitCount_0f7a4 l E  H.size ) (va_cwS 1 hts gX5_choose_J6_bitCount_0f7a4 rfl rfl rfl (by decide +kernel) ⟨Nat.le_of_ble_eq_true rfl, Nat.le_of_ble_eq_true rfl⟩) ⟨pcW_blind, (pcW_pre hPc hkn hDc hst hS hFc)⟩ rfl rfl hl.1 rfl (lv_room (Nat.le_of_ble_eq_true rfl)) dX5_choose_32 ⟨Nat.le_of_ble_eq_true rfl, Nat.le_of_ble_eq_true rfl⟩) hS (fun q _ h => hFc q h) hFc (fun r3 u t H1 locs ht hvm hw4 hB hz1 hk1 hS => ?_)
  obtain ⟨hP1, hD1⟩ := hB
  rw [ht] at hP1
  try dsimp only at hw4
  obtain ⟨hP, hD⟩ := va_join (wr := [(h0, .inr (5, [.ref of, .ref k1, .ref k2, .ref k3, .ref k4, .int 0, .int 0, .int 0])), (of, .inr (2, [.ref g1, .ref g2, .ref g3, .ref g4, .ref g5, .int 0, .ref g6, .ref g7, .ref g8])), (k2, .inl (E.2 2, 128, .inr (.inl fj))), (k3, .inl (E.2 0, 7, .inl (fun _ => 0))), (k4, .inl (E.2 0, 7, .inl (fun _ => 0)))]) (w1 := []) hP hD [] [0, 1, 2, 3, 4] rfl rfl (by decide) (by decide) hk1 hFc hP1 hD1
  generalize H1 = H at hP hS ⊢
  have hP : va_P E.1 vwCl [(h0, .inr (5, [.ref of, .ref k1, .ref k2, .ref k3, .ref k4, .int 0, .int 0, .int 0])), (of, .inr (2, [.ref g1, .ref g2, .ref g3, .ref g4, .ref g5, .int 0, .ref g6, .ref g7, .ref g8])), (k2, .inl (E.2 2, 128, .inr (.inl fj))), (k3, .inl (E.2 0, 7, .inl (fun _ => 0))), (k4, .inl (E.2 0, 7, .inl (fun _ => 0)))] H := hP
  have hD : va_D A [(h0, .inr (5, [.ref of, .ref k1, .ref k2, .ref k3, .ref k4, .int 0, .int 0, .int 0])), (of, .inr (2, [.ref g1, .ref g2, .ref g3, .ref g4, .ref g5, .int 0, .ref g6, .ref g7, .ref g8])), (k2, .inl (E.2 2, 128, .inr (.inl fj))), (k3, .inl (E.2 0, 7, .inl (fun _ => 0))), (k4, .inl (E.2 0, 7, .inl (fun _ => 0)))] := hD
  obtain rfl : r3 = 0 := hw4
  refine lv_istore (lv' := [(5, .int 0), (4, .int 0), (2, .long 1152921504606846976), (1, .int 0), (0, .ref h0)]) hx hb dX5_choose_35 hl (by decide) rfl (fun ls hl => ?_)
  refine lv_aload_n hx hb dX5_choose_37 rfl (lv_at hl 4 rfl) ?_
  refine va_get (D := E.1) (ci := 5) (v := .ref k2) (C := RX5) (T := TX5) (N := 8) hx hb hts inX5 hown hK hP 0 rfl rfl 2 (by decide) fl9 (fun _ h9 => h9) rfl dX5_choose_38 ?_
  refine lv_iload hx hb dX5_choose_41 (lv_at hl 1 rfl) ?_
  refine va_lald hx hb hK hP 2 2 rfl rfl (show vp_in 0 128 from by unfold vp_in; decide) dX5_choose_43 ?_
  refine lv_topl (fun x5 ex5 => ?_)
  obtain rfl : x5 = 0 := ex5.trans hl0
  refine lv_ldc2 (v := 1152921504606846976) hx hb hown (hts (.constantLong RX5 46 1152921504606846976) (by decide +kernel)) dX5_choose_44 ?_
  refine W.lcmp hx hb dX5_choose_47 ?_
  refine lv_topi (fun x6 ex6 => ?_)
  obtain rfl : x6 = (-1) := ex6.trans (by decide +kernel)
  refine lv_if_ge (tgt := 108) hx hb dX5_choose_48 (by decide) (fun c9 => absurd c9 (by decide)) (fun _ => ?_)
  refine lv_iload hx hb dX5_choose_51 (lv_at hl 0 rfl) ?_
  refine lv_aload_n hx hb dX5_choose_53 rfl (lv_at hl 4 rfl) ?_
  refine va_get (D := E.1) (ci := 5) (v := .int 0) (C := RX5) (T := TX5) (N := 8) hx hb hts inX5 hown hK hP 0 rfl rfl 6 (by decide) fl26 (fun _ h9 => h9) rfl dX5_choose_54 ?_
  refine lv_icmp_lt (tgt := 108) hx hb dX5_choose_57 (by decide) (fun c9 => absurd c9 (by decide)) (fun _ => ?_)
  refine lv_aload_n hx hb dX5_choose_60 rfl (lv_at hl 4 rfl) ?_
  refine va_get (D := E.1) (ci := 5) (v := .ref k2) (C := RX5) (T := TX5) (N := 8) hx hb hts inX5 hown hK hP 0 rfl rfl 2 (by decide) fl9 (fun _ h9 => h9) rfl dX5_choose_61 ?_
  refine lv_iload hx hb dX5_choose_64 (lv_at hl 1 rfl) ?_
  refine va_lald hx hb hK hP 2 2 rfl rfl (show vp_in 0 128 from by unfold vp_in; decide) dX5_choose_66 ?_
  refine lv_topl (fun x7 ex7 => ?_)
  obtain rfl : x7 = 0 := ex7.trans hl0
  refine lv_ldc2 (v := 4) hx hb hown (hts (.constantLong RX5 96 4) (by decide +kernel)) dX5_choose_67 ?_
  refine lv_iload_n hx hb dX5_choose_70 rfl (lv_at hl 3 rfl) ?_
  refine lv_iload hx hb dX5_choose_71 (lv_at hl 1 rfl) ?_
  refine lv_ixor hx hb dX5_choose_73 ?_
  refine lv_topi (fun x8 ex8 => ?_)
  obtain rfl : x8 = 0 := ex8.trans (by decide +kernel)
  have hPc := hP.sub (ws' := []) [] rfl
  have hDc := hD.sub (ws' := []) [] (by decide) rfl
  have hFc := va_free (wc := []) hD hS hA [] rfl
  refine va_calll (va_runS (As := [.int 0]) (rest := [.long 4, .long 0]) ⟨hx, hb, hml, hown, hts⟩ (c_X5_weightOf l E  H.size ) (va_cwS 1 hts gX5_choose_X5_weightOf rfl rfl rfl (by decide +kernel) ⟨Nat.le_of_ble_eq_true rfl, Nat.le_of_ble_eq_true rfl⟩) ⟨pcW_blind, (pcW_pre hPc hkn hDc hst hS hFc)⟩ rfl rfl hl.1 rfl (lv_room (Nat.le_of_ble_eq_true rfl)) dX5_choose_74 ⟨Nat.le_of_ble_eq_true rfl, Nat.le_of_ble_eq_true rfl⟩) hS (fun q _ h => hFc q h) hFc (fun r9 u t H1 locs ht hvm hw10 hB hz1 hk1 hS => ?_)
  obtain ⟨hP1, hD1⟩ := hB
  rw [ht] at hP1
  try dsimp only at hw10
  obtain ⟨hP, hD⟩ := va_join (wr := [(h0, .inr (5, [.ref of, .ref k1, .ref k2, .ref k3, .ref k4, .int 0, .int 0, .int 0])), (of, .inr (2, [.ref g1, .ref g2, .ref g3, .ref g4, .ref g5, .int 0, .ref g6, .ref g7, .ref g8])), (k2, .inl (E.2 2, 128, .inr (.inl fj))), (k3, .inl (E.2 0, 7, .inl (fun _ => 0))), (k4, .inl (E.2 0, 7, .inl (fun _ => 0)))]) (w1 := []) hP hD [] [0, 1, 2, 3, 4] rfl rfl (by decide) (by decide) hk1 hFc hP1 hD1
  generalize H1 = H at hP hS ⊢
  have hP : va_P E.1 vwCl [(h0, .inr (5, [.ref of, .ref k1, .ref k2, .ref k3, .ref k4, .int 0, .int 0, .int 0])), (of, .inr (2, [.ref g1, .ref g2, .ref g3, .ref g4, .ref g5, .int 0, .ref g6, .ref g7, .ref g8])), (k2, .inl (E.2 2, 128, .inr (.inl fj))), (k3, .inl (E.2 0, 7, .inl (fun _ => 0))), (k4, .inl (E.2 0, 7, .inl (fun _ => 0)))] H := hP
  have hD : va_D A [(h0, .inr (5, [.ref of, .ref k1, .ref k2, .ref k3, .ref k4, .int 0, .int 0, .int 0])), (of, .inr (2, [.ref g1, .ref g2, .ref g3, .ref g4, .ref g5, .int 0, .ref g6, .ref g7, .ref g8])), (k2, .inl (E.2 2, 128, .inr (.inl fj))), (k3, .inl (E.2 0, 7, .inl (fun _ => 0))), (k4, .inl (E.2 0, 7, .inl (fun _ => 0)))] := hD
  obtain rfl : r9 = 0 := hw10
  refine lv_lmul hx hb dX5_choose_77 ?_
  refine lv_topl (fun x11 ex11 => ?_)
  obtain rfl : x11 = 0 := ex11.trans (by decide +kernel)
  refine lv_ladd hx hb dX5_choose_78 ?_
  refine lv_topl (fun x12 ex12 => ?_)
  obtain rfl : x12 = 0 := ex12.trans (by decide +kernel)
  refine lv_lstore (lv' := [(6, .long 0), (5, .int 0), (4, .int 0), (2, .long 1152921504606846976), (1, .int 0), (0, .ref h0)]) hx hb dX5_choose_79 hl (by decide) rfl (fun ls hl => ?_)
  refine lv_iload hx hb dX5_choose_81 (lv_at hl 1 rfl) ?_
  refine lv_aload_n hx hb dX5_choose_83 rfl (lv_at hl 5 rfl) ?_
  refine va_get (D := E.1) (ci := 5) (v := .int 0) (C := RX5) (T := TX5) (N := 8) hx hb hts inX5 hown hK hP 0 rfl rfl 6 (by decide) fl26 (fun _ h9 => h9) rfl dX5_choose_84 ?_
  refine lv_icmp_le (tgt := 95) hx hb dX5_choose_87 (by decide) (fun _ => ?_) (fun c9 => absurd c9 (by decide))
  refine lv_lload_n hx hb dX5_choose_95 rfl (lv_at hl 3 rfl) ?_
  refine lv_lload hx hb dX5_choose_96 (lv_at hl 0 rfl) ?_
  refine va_mmin_long hx hb (by rw [hml]; exact hl.1.symm) hown (hts (.methodLink RX5 84 Lib.MathLoose.min_long.x) (by decide +kernel)) (hts (.static Lib.MathLoose.min_long.x) (by decide +kernel)) (hts (.initialized "java/lang/Math") (by decide +kernel)) (hts (.code Lib.MathLoose.min_long.x Lib.MathLoose.min_long.code 4 (some .long)) (by decide +kernel)) (Nat.le_of_ble_eq_true rfl) (Nat.le_of_ble_eq_true rfl) (Nat.le_of_ble_eq_true rfl) (Nat.le_of_ble_eq_true rfl) dX5_choose_98 ?_
  refine lv_topl (fun x13 ex13 => ?_)
  obtain rfl : x13 = 0 := ex13.trans (by decide +kernel)
  refine lv_lstore_n (lv' := [(2, .long 0), (6, .long 0), (5, .int 0), (4, .int 0), (1, .int 0), (0, .ref h0)]) hx hb dX5_choose_101 rfl hl (by decide) rfl (fun ls hl => ?_)
  refine lv_aload_n hx hb dX5_choose_102 rfl (lv_at hl 5 rfl) ?_
  refine lv_iload hx hb dX5_choose_103 (lv_at hl 2 rfl) ?_
  refine va_put (D := E.1) (ci := 5) (v := .int 0) (ty := .int) (C := RX5) (T := TX5) (N := 8) hx hb hts inX5 tyX5 tyX5_ok nmX5 hown hK hP hD hS 0 rfl rfl 6 (by decide) fl26 (fun _ h9 => h9) rfl (by decide +kernel) rfl rfl (Nat.le_of_ble_eq_true rfl) dX5_choose_105 (fun H locs hP hD hS => ?_)
  have hP : va_P E.1 vwCl [(h0, .inr (5, [.ref of, .ref k1, .ref k2, .ref k3, .ref k4, .int 0, .int 0, .int 0])), (of, .inr (2, [.ref g1, .ref g2, .ref g3, .ref g4, .ref g5, .int 0, .ref g6, .ref g7, .ref g8])), (k2, .inl (E.2 2, 128, .inr (.inl fj))), (k3, .inl (E.2 0, 7, .inl (fun _ => 0))), (k4, .inl (E.2 0, 7, .inl (fun _ => 0)))] H := hP
  have hD : va_D A [(h0, .inr (5, [.ref of, .ref k1, .ref k2, .ref k3, .ref k4, .int 0, .int 0, .int 0])), (of, .inr (2, [.ref g1, .ref g2, .ref g3, .ref g4, .ref g5, .int 0, .ref g6, .ref g7, .ref g8])), (k2, .inl (E.2 2, 128, .inr (.inl fj))), (k3, .inl (E.2 0, 7, .inl (fun _ => 0))), (k4, .inl (E.2 0, 7, .inl (fun _ => 0)))] := hD
  refine lv_iinc (v := 1) (lv' := [(4, .int 1), (2, .long 0), (6, .long 0), (5, .int 0), (1, .int 0), (0, .ref h0)]) hx hb dX5_choose_108 hl (k := 3) rfl (by decide) (by decide) rfl (fun ls hl => ?_)
  refine lv_goto (tgt := 24) hx hb dX5_choose_111 (by decide) ?_
  refine lv_iload hx hb dX5_choose_24 (lv_at hl 0 rfl) ?_
  refine lv_iload_n hx hb dX5_choose_26 rfl (lv_at hl 4 rfl) ?_
  refine lv_icmp_gt (tgt := 114) hx hb dX5_choose_27 (by decide) (fun _ => ?_) (fun c9 => absurd c9 (by decide))
  refine lv_aload_n hx hb dX5_choose_114 rfl (lv_at hl 5 rfl) ?_
  refine lv_lload_n hx hb dX5_choose_115 rfl (lv_at hl 1 rfl) ?_
  refine lv_ldc2 (v := 78125) hx hb hown (hts (.constantLong RX5 78 78125) (by decide +kernel)) dX5_choose_116 ?_
  refine lv_ldiv hx hb dX5_choose_119 (by decide) ?_
  refine lv_topl (fun x14 ex14 => ?_)
  obtain rfl : x14 = 0 := ex14.trans (by decide +kernel)
  refine lv_l2i hx hb dX5_choose_120 rfl ?_
  refine lv_topi (fun x15 ex15 => ?_)
  obtain rfl : x15 = 0 := ex15.trans (by decide +kernel)
  refine va_put (D := E.1) (ci := 5) (v := .int 0) (ty := .int) (C := RX5) (T := TX5) (N := 8) hx hb hts inX5 tyX5 tyX5_ok nmX5 hown hK hP hD hS 0 rfl rfl 7 (by decide) fl30 (fun _ h9 => h9) rfl (by decide +kernel) rfl rfl (Nat.le_of_ble_eq_true rfl) dX5_choose_121 (fun H locs hP hD hS => ?_)
  have hP : va_P E.1 vwCl [(h0, .inr (5, [.ref of, .ref k1, .ref k2, .ref k3, .ref k4, .int 0, .int 0, .int 0])), (of, .inr (2, [.ref g1, .ref g2, .ref g3, .ref g4, .ref g5, .int 0, .ref g6, .ref g7, .ref g8])), (k2, .inl (E.2 2, 128, .inr (.inl fj))), (k3, .inl (E.2 0, 7, .inl (fun _ => 0))), (k4, .inl (E.2 0, 7, .inl (fun _ => 0)))] H := hP
  have hD : va_D A [(h0, .inr (5, [.ref of, .ref k1, .ref k2, .ref k3, .ref k4, .int 0, .int 0, .int 0])), (of, .inr (2, [.ref g1, .ref g2, .ref g3, .ref g4, .ref g5, .int 0, .ref g6, .ref g7, .ref g8])), (k2, .inl (E.2 2, 128, .inr (.inl fj))), (k3, .inl (E.2 0, 7, .inl (fun _ => 0))), (k4, .inl (E.2 0, 7, .inl (fun _ => 0)))] := hD
  refine lv_aload_n hx hb dX5_choose_124 rfl (lv_at hl 5 rfl) ?_
  refine lv_lload_n hx hb dX5_choose_125 rfl (lv_at hl 1 rfl) ?_
  refine lv_ldc2 (v := 78125) hx hb hown (hts (.constantLong RX5 78 78125) (by decide +kernel)) dX5_choose_126 ?_
  refine lv_lrem hx hb dX5_choose_129 (by decide) ?_
  refine lv_topl (fun x16 ex16 => ?_)
  obtain rfl : x16 = 0 := ex16.trans (by decide +kernel)
  refine lv_l2i hx hb dX5_choose_130 rfl ?_
  refine lv_topi (fun x17 ex17 => ?_)
  obtain rfl : x17 = 0 := ex17.trans (by decide +kernel)
  have hPc := hP.sub (ws' := [(h0, .inr (5, [.ref of, .ref k1, .ref k2, .ref k3, .ref k4, .int 0, .int 0, .int 0])), (k3, .inl (E.2 0, 7, .inl (fun _ => 0))), (k4, .inl (E.2 0, 7, .inl (fun _ => 0)))]) [0, 3, 4] rfl
  have hDc := hD.sub (ws' := [(h0, .inr (5, [.ref of, .ref k1, .ref k2, .ref k3, .ref k4, .int 0, .int 0, .int 0])), (k3, .inl (E.2 0, 7, .inl (fun _ => 0))), (k4, .inl (E.2 0, 7, .inl (fun _ => 0)))]) [0, 3, 4] (by decide) rfl
  have hFc := va_free (wc := [(h0, .inr (5, [.ref of, .ref k1, .ref k2, .ref k3, .ref k4, .int 0, .int 0, .int 0])), (k3, .inl (E.2 0, 7, .inl (fun _ => 0))), (k4, .inl (E.2 0, 7, .inl (fun _ => 0)))]) hD hS hA [0, 3, 4] rfl
  refine va_callv (va_runV (As := [.int 0]) (rest := []) ⟨hx, hb, hml, hown, hts⟩ (c_X5_readRow l E h0 of k1 k2 k3 k4 H.size ) (cwV 1 hts gX5_choose_X5_readRow rfl rfl rfl (by decide +kernel) ⟨Nat.le_of_ble_eq_true rfl, Nat.le_of_ble_eq_true rfl⟩) ⟨pcW_blind, va_recv hK hPc (ci := 5) (q0 := 0) rfl rfl, (pcW_pre hPc hkn hDc hst hS hFc)⟩ rfl rfl hl.1 rfl (lv_room (Nat.le_of_ble_eq_true rfl)) dX5_choose_131 ⟨Nat.le_of_ble_eq_true rfl, Nat.le_of_ble_eq_true rfl⟩) hS (fun q _ h => hFc q h) hFc (fun u t H1 locs ht hvm hw19 hB hz1 hk1 hS => ?_)
  obtain ⟨u20, u21⟩ := u
  obtain ⟨hP1, hD1⟩ := hB
  rw [ht] at hP1
  try dsimp only at hw19
  obtain ⟨hP, hD⟩ := va_join (wr := [(of, .inr (2, [.ref g1, .ref g2, .ref g3, .ref g4, .ref g5, .int 0, .ref g6, .ref g7, .ref g8])), (k2, .inl (E.2 2, 128, .inr (.inl fj)))]) (w1 := [(h0, .inr (5, [.ref of, .ref k1, .ref k2, .ref k3, .ref k4, .int 0, .int 0, .int 0])), (k3, .inl (E.2 0, 7, .inl u20)), (k4, .inl (E.2 0, 7, .inl u21))]) hP hD [0, 3, 4] [1, 2] rfl rfl (by decide) (by decide) hk1 hFc hP1 hD1
  generalize H1 = H at hP hS ⊢
  have hP : va_P E.1 vwCl [(of, .inr (2, [.ref g1, .ref g2, .ref g3, .ref g4, .ref g5, .int 0, .ref g6, .ref g7, .ref g8])), (k2, .inl (E.2 2, 128, .inr (.inl fj))), (h0, .inr (5, [.ref of, .ref k1, .ref k2, .ref k3, .ref k4, .int 0, .int 0, .int 0])), (k3, .inl (E.2 0, 7, .inl u20)), (k4, .inl (E.2 0, 7, .inl u21))] H := hP
  have hD : va_D A [(of, .inr (2, [.ref g1, .ref g2, .ref g3, .ref g4, .ref g5, .int 0, .ref g6, .ref g7, .ref g8])), (k2, .inl (E.2 2, 128, .inr (.inl fj))), (h0, .inr (5, [.ref of, .ref k1, .ref k2, .ref k3, .ref k4, .int 0, .int 0, .int 0])), (k3, .inl (E.2 0, 7, .inl u20)), (k4, .inl (E.2 0, 7, .inl u21))] := hD
  have hP9 := hP.sub (ws' := [(h0, .inr (5, [.ref of, .ref k1, .ref k2, .ref k3, .ref k4, .int 0, .int 0, .int 0])), (of, .inr (2, [.ref g1, .ref g2, .ref g3, .ref g4, .ref g5, .int 0, .ref g6, .ref g7, .ref g8])), (k2, .inl (E.2 2, 128, .inr (.inl fj))), (k3, .inl (E.2 0, 7, .inl u20)), (k4, .inl (E.2 0, 7, .inl u21))]) [2, 0, 1, 3, 4] rfl
  have hD9 := hD.sub (ws' := [(h0, .inr (5, [.ref of, .ref k1, .ref k2, .ref k3, .ref k4, .int 0, .int 0, .int 0])), (of, .inr (2, [.ref g1, .ref g2, .ref g3, .ref g4, .ref g5, .int 0, .ref g6, .ref g7, .ref g8])), (k2, .inl (E.2 2, 128, .inr (.inl fj))), (k3, .inl (E.2 0, 7, .inl u20)), (k4, .inl (E.2 0, 7, .inl u21))]) [2, 0, 1, 3, 4] (by decide) rfl
  exact W.vret hx hb hr (fun t ht hW => ⟨⟨(u20, u21), rfl, trivial, by rw [ht]; exact hP9, hD9⟩, hS.F ht⟩) hS.2.2 dX5_choose_134
set_option maxHeartbeats 4000000 in
set_option maxRecDepth 100000 in
theorem c_X5_setDays (l : Launch) (E : vE) (h0 : Nat) (of : Nat) (k1 : Nat) (k2 : Nat) (k3 : Nat) (k4 : Nat) (g1 : Nat) (g2 : Nat) (g3 : Nat) (g4 : Nat) (g5 : Nat) (g6 : Nat) (g7 : Nat) (g8 : Nat) (cc : Int32) (sz : Nat) : Met l yX5_setDays wsX5_setDays ({ frames := 0, cells := 0, slots := 0, locals := 0 }) (pcW E [.ref h0, .int cc] sz [(h0, .inr (5, [.ref of, .ref k1, .ref k2, .ref k3, .ref k4, .int 0, .int 0, .int 0])), (of, .inr (2, [.ref g1, .ref g2, .ref g3, .ref g4, .ref g5, .int 0, .ref g6, .ref g7, .ref g8]))]) (va_Qv (fun (_ : Unit) => True) (fun (_ : Unit) (t : State) => wB E (va_A [(h0, .inr (5, [.ref of, .ref k1, .ref k2, .ref k3, .ref k4, .int 0, .int 0, .int 0])), (of, .inr (2, [.ref g1, .ref g2, .ref g3, .ref g4, .ref g5, .int 0, .ref g6, .ref g7, .ref g8]))] sz) [(h0, .inr (5, [.ref of, .ref k1, .ref k2, .ref k3, .ref k4, .int 0, .int 0, .int 0])), (of, .inr (2, [.ref g1, .ref g2, .ref g3, .ref g4, .ref g5, .int 0, .ref g6, .ref g7, .ref g8]))] t) (va_A [(h0, .inr (5, [.ref of, .ref k1, .ref k2, .ref k3, .ref k4, .int 0, .int 0, .int 0])), (of, .inr (2, [.ref g1, .ref g2, .ref g3, .ref g4, .ref g5, .int 0, .ref g6, .ref g7, .ref g8]))] sz)) 0 0 (va_A [(h0, .inr (5, [.ref of, .ref k1, .ref k2, .ref k3, .ref k4, .int 0, .int 0, .int 0])), (of, .inr (2, [.ref g1, .ref g2, .ref g3, .ref g4, .ref g5, .int 0, .ref g6, .ref g7, .ref g8]))] sz) := by
  refine Met.ofW (cc := cX5_setDays) (maxL := 8) (ret := none) (by decide) rfl ?_
  intro p e s m args below meth c s₁ B hml hv
  obtain ⟨rfl, hsz, hP, hkn, hD0, hst⟩ := hv
  have hx := B.exec
  have hb := B.bytes
  have hr := B.returns
  have hts := atoms_spec (ws := wsX5_setDays) B.pre
  have hown : s.vm.findClass RX5 = some m.cls := findClass_of_methodNamed B.named
  have hlocks := B.notSynchronized
  subst hsz
  have hD := hD0.self (sz := s.heap.size)
  have hK := hkn.1
  have hAO := hkn.2.2
  generalize hAe : va_A [(h0, .inr (5, [.ref of, .ref k1, .ref k2, .ref k3, .ref k4, .int 0, .int 0, .int 0])), (of, .inr (2, [.ref g1, .ref g2, .ref g3, .ref g4, .ref g5, .int 0, .ref g6, .ref g7, .ref g8]))] s.heap.size = A at hD hst ⊢
  have hA : ∀ q : Nat, s.heap.size ≤ q → A q := fun q h => by rw [← hAe]; exact Or.inr h
  have hS : va_S A s.heap s.heap [] := va_S.rf
  have hP : va_P E.1 vwCl [(h0, .inr (5, [.ref of, .ref k1, .ref k2, .ref k3, .ref k4, .int 0, .int 0, .int 0])), (of, .inr (2, [.ref g1, .ref g2, .ref g3, .ref g4, .ref g5, .int 0, .ref g6, .ref g7, .ref g8]))] s.heap := hP
  have hl := lv_entry ([.ref h0, .int cc]) (n := 8) (Nat.le_of_ble_eq_true rfl)
  rw [lg_entry_eq]
  generalize (lg_sl ([.ref h0, .int cc]) ++ List.replicate (8 - (lg_sl ([.ref h0, .int cc])).length) Slot.unset).toArray = ls at hl ⊢
  have hl : lv_has ls 8 [(0, .ref h0), (1, .int cc)] := hl
  have fl15 := hts (.fieldLink RX5 15 "BoatsHome$Plan" "crewOf" "[I") (by decide +kernel)
  have fl19 := hts (.fieldLink RX5 19 "BoatsHome$Plan" "dayOf" "[I") (by decide +kernel)
  have fl33 := hts (.fieldLink RX5 33 "BoatsHome$Plan" "offers" "LBoatsHome$Offers;") (by decide +kernel)
  have fl42 := hts (.fieldLink RX5 42 "BoatsHome$Plan" "orders" "LBoatsHome$Orders;") (by decide +kernel)
  have fl54 := hts (.fieldLink RX5 54 "BoatsHome$Offers" "crewPorts" "[I") (by decide +kernel)
  have fl72 := hts (.fieldLink RX5 72 "BoatsHome$Offers" "size" "I") (by decide +kernel)
  have fl104 := hts (.fieldLink RX5 104 "BoatsHome$Orders" "orders" "[I") (by decide +kernel)
  have fl106 := hts (.fieldLink RX5 106 "BoatsHome$Offers" "crewDays" "[I") (by decide +kernel)
  have fl113 := hts (.fieldLink RX5 113 "BoatsHome$Offers" "days" "[I") (by decide +kernel)
  have fl116 := hts (.fieldLink RX5 116 "BoatsHome$Offers" "to" "[I") (by decide +kernel)
  have inX2 : ∀ w ∈ u_ws RX2 TX2 9, w ∈ wsX5_setDays := by decide +kernel
  have inX3 : ∀ w ∈ u_ws RX3 TX3 5, w ∈ wsX5_setDays := by decide +kernel
  have inX5 : ∀ w ∈ u_ws RX5 TX5 8, w ∈ wsX5_setDays := by decide +kernel
  refine lv_iconst (v := 0) hx hb dX5_setDays_0 (by decide) ?_
  refine lv_istore_n (lv' := [(2, .int 0), (0, .ref h0), (1, .int cc)]) hx hb dX5_setDays_1 rfl hl (by decide) rfl (fun ls hl => ?_)
  refine lv_iconst (v := 0) hx hb dX5_setDays_2 (by decide) ?_
  refine lv_istore_n (lv' := [(3, .int 0), (2, .int 0), (0, .ref h0), (1, .int cc)]) hx hb dX5_setDays_3 rfl hl (by decide) rfl (fun ls hl => ?_)
  refine lv_iload_n hx hb dX5_setDays_4 rfl (lv_at hl 0 rfl) ?_
  refine lv_aload_n hx hb dX5_setDays_5 rfl (lv_at hl 2 rfl) ?_
  refine va_get (D := E.1) (ci := 5) (v := .ref of) (C := RX5) (T := TX5) (N := 8) hx hb hts inX5 hown hK hP 0 rfl rfl 0 (by decide) fl33 (fun _ h9 => h9) rfl dX5_setDays_6 ?_
  refine va_get (D := E.1) (ci := 2) (v := .int 0) (C := RX2) (T := TX2) (N := 9) hx hb hts inX2 hown hK hP 1 rfl rfl 5 (by decide) fl72 (fun _ h9 => h9) rfl dX5_setDays_9 ?_
  refine lv_icmp_ge (tgt := 47) hx hb dX5_setDays_12 (by decide) (fun _ => ?_) (fun c9 => absurd c9 (by decide))
  refine lv_iload_n hx hb dX5_setDays_47 rfl (lv_at hl 1 rfl) ?_
  refine lv_if_ne (tgt := 52) hx hb dX5_setDays_48 (by decide) (fun c9 => absurd c9 (by decide)) (fun _ => ?_)
  have hP9 := hP.sub (ws' := [(h0, .inr (5, [.ref of, .ref k1, .ref k2, .ref k3, .ref k4, .int 0, .int 0, .int 0])), (of, .inr (2, [.ref g1, .ref g2, .ref g3, .ref g4, .ref g5, .int 0, .ref g6, .ref g7, .ref g8]))]) [0, 1] rfl
  have hD9 := hD.sub (ws' := [(h0, .inr (5, [.ref of, .ref k1, .ref k2, .ref k3, .ref k4, .int 0, .int 0, .int 0])), (of, .inr (2, [.ref g1, .ref g2, .ref g3, .ref g4, .ref g5, .int 0, .ref g6, .ref g7, .ref g8]))]) [0, 1] (by decide) rfl
  exact W.vret hx hb hr (fun t ht hW => ⟨⟨(), rfl, trivial, by rw [ht]; exact hP9, hD9⟩, hS.F ht⟩) hS.2.2 dX5_setDays_51
set_option maxHeartbeats 4000000 in
set_option maxRecDepth 100000 in
theorem c_X5_make (l : Launch) (E : vE) (h0 : Nat) (of : Nat) (k1 : Nat) (k2 : Nat) (k3 : Nat) (k4 : Nat) (g1 : Nat) (g2 : Nat) (g3 : Nat) (g4 : Nat) (g5 : Nat) (g6 : Nat) (g7 : Nat) (g8 : Nat) (fc : Nat → Int32) (sz : Nat) (hfc : ∀ k, k < 4 → fc k = -1) : Met l yX5_make wsX5_make ({ frames := 2, cells := 0, slots := 0, locals := 51 }) (pcW E [.ref h0] sz [(h0, .inr (5, [.ref of, .ref k1, .ref k2, .ref k3, .ref k4, .int 0, .int 0, .int 0])), (of, .inr (2, [.ref g1, .ref g2, .ref g3, .ref g4, .ref g5, .int 0, .ref g6, .ref g7, .ref g8])), (g6, .inl (E.2 0, 4, .inl fc)), (k2, .inl (E.2 2, 128, .inr (.inl (fun _ => 0)))), (k3, .inl (E.2 0, 7, .inl (fun _ => 0))), (k4, .inl (E.2 0, 7, .inl (fun _ => 0)))]) (va_Qv (fun (_ : Unit) => True) (fun (_ : Unit) (t : State) => wB E (va_A [(h0, .inr (5, [.ref of, .ref k1, .ref k2, .ref k3, .ref k4, .int 0, .int 0, .int 0])), (of, .inr (2, [.ref g1, .ref g2, .ref g3, .ref g4, .ref g5, .int 0, .ref g6, .ref g7, .ref g8])), (g6, .inl (E.2 0, 4, .inl fc)), (k2, .inl (E.2 2, 128, .inr (.inl (fun _ => 0)))), (k3, .inl (E.2 0, 7, .inl (fun _ => 0))), (k4, .inl (E.2 0, 7, .inl (fun _ => 0)))] sz) [(h0, .inr (5, [.ref of, .ref k1, .ref k2, .ref k3, .ref k4, .int 1, .int 0, .int 0]))] t) (va_A [(h0, .inr (5, [.ref of, .ref k1, .ref k2, .ref k3, .ref k4, .int 0, .int 0, .int 0])), (of, .inr (2, [.ref g1, .ref g2, .ref g3, .ref g4, .ref g5, .int 0, .ref g6, .ref g7, .ref g8])), (g6, .inl (E.2 0, 4, .inl fc)), (k2, .inl (E.2 2, 128, .inr (.inl (fun _ => 0)))), (k3, .inl (E.2 0, 7, .inl (fun _ => 0))), (k4, .inl (E.2 0, 7, .inl (fun _ => 0)))] sz)) 0 0 (va_A [(h0, .inr (5, [.ref of, .ref k1, .ref k2, .ref k3, .ref k4, .int 0, .int 0, .int 0])), (of, .inr (2, [.ref g1, .ref g2, .ref g3, .ref g4, .ref g5, .int 0, .ref g6, .ref g7, .ref g8])), (g6, .inl (E.2 0, 4, .inl fc)), (k2, .inl (E.2 2, 128, .inr (.inl (fun _ => 0)))), (k3, .inl (E.2 0, 7, .inl (fun _ => 0))), (k4, .inl (E.2 0, 7, .inl (fun _ => 0)))] sz) := by
  refine Met.ofW (cc := cX5_make) (maxL := 2) (ret := none) (by decide) rfl ?_
  intro p e s m args below meth c s₁ B hml hv
  obtain ⟨rfl, hsz, hP, hkn, hD0, hst⟩ := hv
  have hx := B.exec
  have hb := B.bytes
  have hr := B.returns
  have hts := atoms_spec (ws := wsX5_make) B.pre
  have hown : s.vm.findClass RX5 = some m.cls := findClass_of_methodNamed B.named
  have hlocks := B.notSynchronized
  subst hsz
  have hD := hD0.self (sz := s.heap.size)
  have hK := hkn.1
  have hAO := hkn.2.2
  generalize hAe : va_A [(h0, .inr (5, [.ref of, .ref k1, .ref k2, .ref k3, .ref k4, .int 0, .int 0, .int 0])), (of, .inr (2, [.ref g1, .ref g2, .ref g3, .ref g4, .ref g5, .int 0, .ref g6, .ref g7, .ref g8])), (g6, .inl (E.2 0, 4, .inl fc)), (k2, .inl (E.2 2, 128, .inr (.inl (fun _ => 0)))), (k3, .inl (E.2 0, 7, .inl (fun _ => 0))), (k4, .inl (E.2 0, 7, .inl (fun _ => 0)))] s.heap.size = A at hD hst ⊢
  have hA : ∀ q : Nat, s.heap.size ≤ q → A q := fun q h => by rw [← hAe]; exact Or.inr h
  have hS : va_S A s.heap s.heap [] := va_S.rf
  have hP : va_P E.1 vwCl [(h0, .inr (5, [.ref of, .ref k1, .ref k2, .ref k3, .ref k4, .int 0, .int 0, .int 0])), (of, .inr (2, [.ref g1, .ref g2, .ref g3, .ref g4, .ref g5, .int 0, .ref g6, .ref g7, .ref g8])), (g6, .inl (E.2 0, 4, .inl fc)), (k2, .inl (E.2 2, 128, .inr (.inl (fun _ => 0)))), (k3, .inl (E.2 0, 7, .inl (fun _ => 0))), (k4, .inl (E.2 0, 7, .inl (fun _ => 0)))] s.heap := hP
  have hl := lv_entry ([.ref h0]) (n := 2) (Nat.le_of_ble_eq_true rfl)
  rw [lg_entry_eq]
  generalize (lg_sl ([.ref h0]) ++ List.replicate (2 - (lg_sl ([.ref h0])).length) Slot.unset).toArray = ls at hl ⊢
  have hl : lv_has ls 2 [(0, .ref h0)] := hl
  have fl9 := hts (.fieldLink RX5 9 "BoatsHome$Plan" "least" "[J") (by decide +kernel)
  have fl22 := hts (.fieldLink RX5 22 "BoatsHome$Plan" "made" "Z") (by decide +kernel)
  have fl33 := hts (.fieldLink RX5 33 "BoatsHome$Plan" "offers" "LBoatsHome$Offers;") (by decide +kernel)
  have fl42 := hts (.fieldLink RX5 42 "BoatsHome$Plan" "orders" "LBoatsHome$Orders;") (by decide +kernel)
  have fl54 := hts (.fieldLink RX5 54 "BoatsHome$Offers" "crewPorts" "[I") (by decide +kernel)
  have inX2 : ∀ w ∈ u_ws RX2 TX2 9, w ∈ wsX5_make := by decide +kernel
  have inX5 : ∀ w ∈ u_ws RX5 TX5 8, w ∈ wsX5_make := by decide +kernel
  refine lv_aload_n hx hb dX5_make_0 rfl (lv_at hl 0 rfl) ?_
  refine va_get (D := E.1) (ci := 5) (v := .ref k2) (C := RX5) (T := TX5) (N := 8) hx hb hts inX5 hown hK hP 0 rfl rfl 2 (by decide) fl9 (fun _ h9 => h9) rfl dX5_make_1 ?_
  refine lv_ldc2 (v := 1152921504606846976) hx hb hown (hts (.constantLong RX5 46 1152921504606846976) (by decide +kernel)) dX5_make_4 ?_
  have hPc := hP.sub (ws' := [(k2, .inl (E.2 2, 128, .inr (.inl (fun _ => 0))))]) [3] rfl
  have hDc := hD.sub (ws' := [(k2, .inl (E.2 2, 128, .inr (.inl (fun _ => 0))))]) [3] (by decide) rfl
  have hFc := va_free (wc := [(k2, .inl (E.2 2, 128, .inr (.inl (fun _ => 0))))]) hD hS hA [3] rfl
  refine va_callv (va_runS (As := [.ref k2, .long 1152921504606846976]) (rest := []) ⟨hx, hb, hml, hown, hts⟩ (c_J7_fill_d0a16 l E k2 128 (fun _ => 0) 1152921504606846976 s.heap.size (by decide)) (va_cwS 2 hts gX5_make_J7_fill_d0a16 rfl rfl rfl (by decide +kernel) ⟨Nat.le_of_ble_eq_true rfl, Nat.le_of_ble_eq_true rfl⟩) ⟨pcW_blind, (pcW_pre hPc hkn hDc hst hS hFc)⟩ rfl rfl hl.1 rfl (lv_room (Nat.le_of_ble_eq_true rfl)) dX5_make_7 ⟨Nat.le_of_ble_eq_true rfl, Nat.le_of_ble_eq_true rfl⟩) hS (fun q _ h => hFc q h) hFc (fun u t H1 locs ht hvm hw2 hB hz1 hk1 hS => ?_)
  obtain ⟨u3, rfl⟩ : ∃ z, z = u := ⟨_, rfl⟩
  obtain ⟨hP1, hD1⟩ := hB
  rw [ht] at hP1
  try dsimp only at hw2
  obtain ⟨hP, hD⟩ := va_join (wr := [(h0, .inr (5, [.ref of, .ref k1, .ref k2, .ref k3, .ref k4, .int 0, .int 0, .int 0])), (of, .inr (2, [.ref g1, .ref g2, .ref g3, .ref g4, .ref g5, .int 0, .ref g6, .ref g7, .ref g8])), (g6, .inl (E.2 0, 4, .inl fc)), (k3, .inl (E.2 0, 7, .inl (fun _ => 0))), (k4, .inl (E.2 0, 7, .inl (fun _ => 0)))]) (w1 := [(k2, .inl (E.2 2, 128, .inr (.inl u3)))]) hP hD [3] [0, 1, 2, 4, 5] rfl rfl (by decide) (by decide) hk1 hFc hP1 hD1
  generalize H1 = H at hP hS ⊢
  have hP : va_P E.1 vwCl [(h0, .inr (5, [.ref of, .ref k1, .ref k2, .ref k3, .ref k4, .int 0, .int 0, .int 0])), (of, .inr (2, [.ref g1, .ref g2, .ref g3, .ref g4, .ref g5, .int 0, .ref g6, .ref g7, .ref g8])), (g6, .inl (E.2 0, 4, .inl fc)), (k3, .inl (E.2 0, 7, .inl (fun _ => 0))), (k4, .inl (E.2 0, 7, .inl (fun _ => 0))), (k2, .inl (E.2 2, 128, .inr (.inl u3)))] H := hP
  have hD : va_D A [(h0, .inr (5, [.ref of, .ref k1, .ref k2, .ref k3, .ref k4, .int 0, .int 0, .int 0])), (of, .inr (2, [.ref g1, .ref g2, .ref g3, .ref g4, .ref g5, .int 0, .ref g6, .ref g7, .ref g8])), (g6, .inl (E.2 0, 4, .inl fc)), (k3, .inl (E.2 0, 7, .inl (fun _ => 0))), (k4, .inl (E.2 0, 7, .inl (fun _ => 0))), (k2, .inl (E.2 2, 128, .inr (.inl u3)))] := hD
  refine lv_aload_n hx hb dX5_make_10 rfl (lv_at hl 0 rfl) ?_
  refine va_get (D := E.1) (ci := 5) (v := .ref k2) (C := RX5) (T := TX5) (N := 8) hx hb hts inX5 hown hK hP 0 rfl rfl 2 (by decide) fl9 (fun _ h9 => h9) rfl dX5_make_11 ?_
  refine lv_iconst (v := 0) hx hb dX5_make_14 (by decide) ?_
  refine lv_lconst (v := 0) hx hb dX5_make_15 (by decide) ?_
  refine va_last hx hb hK hP hD hS 5 2 rfl rfl (show vp_in 0 128 from by unfold vp_in; decide) dX5_make_16 (fun H locs hP hD hS => ?_)
  have hP : va_P E.1 vwCl [(h0, .inr (5, [.ref of, .ref k1, .ref k2, .ref k3, .ref k4, .int 0, .int 0, .int 0])), (of, .inr (2, [.ref g1, .ref g2, .ref g3, .ref g4, .ref g5, .int 0, .ref g6, .ref g7, .ref g8])), (g6, .inl (E.2 0, 4, .inl fc)), (k3, .inl (E.2 0, 7, .inl (fun _ => 0))), (k4, .inl (E.2 0, 7, .inl (fun _ => 0))), (k2, .inl (E.2 2, 128, .inr (.inl (vp_updL u3 (Int32.toNatClampNeg 0) 0))))] H := hP
  have hD : va_D A [(h0, .inr (5, [.ref of, .ref k1, .ref k2, .ref k3, .ref k4, .int 0, .int 0, .int 0])), (of, .inr (2, [.ref g1, .ref g2, .ref g3, .ref g4, .ref g5, .int 0, .ref g6, .ref g7, .ref g8])), (g6, .inl (E.2 0, 4, .inl fc)), (k3, .inl (E.2 0, 7, .inl (fun _ => 0))), (k4, .inl (E.2 0, 7, .inl (fun _ => 0))), (k2, .inl (E.2 2, 128, .inr (.inl (vp_updL u3 (Int32.toNatClampNeg 0) 0))))] := hD
  obtain ⟨f4, ef4⟩ : ∃ g : Nat → Int64, g = vp_updL u3 (Int32.toNatClampNeg 0) 0 := ⟨_, rfl⟩
  rw [← ef4] at hP hD
  refine lv_iconst (v := 0) hx hb dX5_make_17 (by decide) ?_
  refine lv_istore_n (lv' := [(1, .int 0), (0, .ref h0)]) hx hb dX5_make_18 rfl hl (by decide) rfl (fun ls hl => ?_)
  refine lv_iload_n hx hb dX5_make_19 rfl (lv_at hl 0 rfl) ?_
  refine lv_iconst (v := 4) hx hb dX5_make_20 (by decide) ?_
  refine lv_icmp_ge (tgt := 56) hx hb dX5_make_21 (by decide) (fun c9 => absurd c9 (by decide)) (fun _ => ?_)
  refine lv_aload_n hx hb dX5_make_24 rfl (lv_at hl 1 rfl) ?_
  refine va_get (D := E.1) (ci := 5) (v := .ref of) (C := RX5) (T := TX5) (N := 8) hx hb hts inX5 hown hK hP 0 rfl rfl 0 (by decide) fl33 (fun _ h9 => h9) rfl dX5_make_25 ?_
  refine va_get (D := E.1) (ci := 2) (v := .ref g6) (C := RX2) (T := TX2) (N := 9) hx hb hts inX2 hown hK hP 1 rfl rfl 6 (by decide) fl54 (fun _ h9 => h9) rfl dX5_make_28 ?_
  refine lv_iload_n hx hb dX5_make_31 rfl (lv_at hl 0 rfl) ?_
  refine va_iald hx hb hK hP 2 0 rfl rfl (show vp_in 0 4 from by unfold vp_in; decide) dX5_make_32 ?_
  refine lv_topi (fun x5 ex5 => ?_)
  obtain rfl : x5 = -1 := ex5.trans (hfc 0 (by decide))
  refine lv_iconst (v := (-1)) hx hb dX5_make_33 (by decide) ?_
  refine lv_icmp_eq (tgt := 50) hx hb dX5_make_34 (by decide) (fun _ => ?_) (fun c9 => absurd c9 (by decide))
  refine lv_iinc (v := 1) (lv' := [(1, .int 1), (0, .ref h0)]) hx hb dX5_make_50 hl (k := 0) rfl (by decide) (by decide) rfl (fun ls hl => ?_)
  refine lv_goto (tgt := 19) hx hb dX5_make_53 (by decide) ?_
  refine lv_iload_n hx hb dX5_make_19 rfl (lv_at hl 0 rfl) ?_
  refine lv_iconst (v := 4) hx hb dX5_make_20 (by decide) ?_
  refine lv_icmp_ge (tgt := 56) hx hb dX5_make_21 (by decide) (fun c9 => absurd c9 (by decide)) (fun _ => ?_)
  refine lv_aload_n hx hb dX5_make_24 rfl (lv_at hl 1 rfl) ?_
  refine va_get (D := E.1) (ci := 5) (v := .ref of) (C := RX5) (T := TX5) (N := 8) hx hb hts inX5 hown hK hP 0 rfl rfl 0 (by decide) fl33 (fun _ h9 => h9) rfl dX5_make_25 ?_
  refine va_get (D := E.1) (ci := 2) (v := .ref g6) (C := RX2) (T := TX2) (N := 9) hx hb hts inX2 hown hK hP 1 rfl rfl 6 (by decide) fl54 (fun _ h9 => h9) rfl dX5_make_28 ?_
  refine lv_iload_n hx hb dX5_make_31 rfl (lv_at hl 0 rfl) ?_
  refine va_iald hx hb hK hP 2 0 rfl rfl (show vp_in 1 4 from by unfold vp_in; decide) dX5_make_32 ?_
  refine lv_topi (fun x6 ex6 => ?_)
  obtain rfl : x6 = -1 := ex6.trans (hfc 1 (by decide))
  refine lv_iconst (v := (-1)) hx hb dX5_make_33 (by decide) ?_
  refine lv_icmp_eq (tgt := 50) hx hb dX5_make_34 (by decide) (fun _ => ?_) (fun c9 => absurd c9 (by decide))
  refine lv_iinc (v := 2) (lv' := [(1, .int 2), (0, .ref h0)]) hx hb dX5_make_50 hl (k := 0) rfl (by decide) (by decide) rfl (fun ls hl => ?_)
  refine lv_goto (tgt := 19) hx hb dX5_make_53 (by decide) ?_
  refine lv_iload_n hx hb dX5_make_19 rfl (lv_at hl 0 rfl) ?_
  refine lv_iconst (v := 4) hx hb dX5_make_20 (by decide) ?_
  refine lv_icmp_ge (tgt := 56) hx hb dX5_make_21 (by decide) (fun c9 => absurd c9 (by decide)) (fun _ => ?_)
  refine lv_aload_n hx hb dX5_make_24 rfl (lv_at hl 1 rfl) ?_
  refine va_get (D := E.1) (ci := 5) (v := .ref of) (C := RX5) (T := TX5) (N := 8) hx hb hts inX5 hown hK hP 0 rfl rfl 0 (by decide) fl33 (fun _ h9 => h9) rfl dX5_make_25 ?_
  refine va_get (D := E.1) (ci := 2) (v := .ref g6) (C := RX2) (T := TX2) (N := 9) hx hb hts inX2 hown hK hP 1 rfl rfl 6 (by decide) fl54 (fun _ h9 => h9) rfl dX5_make_28 ?_
  refine lv_iload_n hx hb dX5_make_31 rfl (lv_at hl 0 rfl) ?_
  refine va_iald hx hb hK hP 2 0 rfl rfl (show vp_in 2 4 from by unfold vp_in; decide) dX5_make_32 ?_
  refine lv_topi (fun x7 ex7 => ?_)
  obtain rfl : x7 = -1 := ex7.trans (hfc 2 (by decide))
  refine lv_iconst (v := (-1)) hx hb dX5_make_33 (by decide) ?_
  refine lv_icmp_eq (tgt := 50) hx hb dX5_make_34 (by decide) (fun _ => ?_) (fun c9 => absurd c9 (by decide))
  refine lv_iinc (v := 3) (lv' := [(1, .int 3), (0, .ref h0)]) hx hb dX5_make_50 hl (k := 0) rfl (by decide) (by decide) rfl (fun ls hl => ?_)
  refine lv_goto (tgt := 19) hx hb dX5_make_53 (by decide) ?_
  refine lv_iload_n hx hb dX5_make_19 rfl (lv_at hl 0 rfl) ?_
  refine lv_iconst (v := 4) hx hb dX5_make_20 (by decide) ?_
  refine lv_icmp_ge (tgt := 56) hx hb dX5_make_21 (by decide) (fun c9 => absurd c9 (by decide)) (fun _ => ?_)
  refine lv_aload_n hx hb dX5_make_24 rfl (lv_at hl 1 rfl) ?_
  refine va_get (D := E.1) (ci := 5) (v := .ref of) (C := RX5) (T := TX5) (N := 8) hx hb hts inX5 hown hK hP 0 rfl rfl 0 (by decide) fl33 (fun _ h9 => h9) rfl dX5_make_25 ?_
  refine va_get (D := E.1) (ci := 2) (v := .ref g6) (C := RX2) (T := TX2) (N := 9) hx hb hts inX2 hown hK hP 1 rfl rfl 6 (by decide) fl54 (fun _ h9 => h9) rfl dX5_make_28 ?_
  refine lv_iload_n hx hb dX5_make_31 rfl (lv_at hl 0 rfl) ?_
  refine va_iald hx hb hK hP 2 0 rfl rfl (show vp_in 3 4 from by unfold vp_in; decide) dX5_make_32 ?_
  refine lv_topi (fun x8 ex8 => ?_)
  obtain rfl : x8 = -1 := ex8.trans (hfc 3 (by decide))
  refine lv_iconst (v := (-1)) hx hb dX5_make_33 (by decide) ?_
  refine lv_icmp_eq (tgt := 50) hx hb dX5_make_34 (by decide) (fun _ => ?_) (fun c9 => absurd c9 (by decide))
  refine lv_iinc (v := 4) (lv' := [(1, .int 4), (0, .ref h0)]) hx hb dX5_make_50 hl (k := 0) rfl (by decide) (by decide) rfl (fun ls hl => ?_)
  refine lv_goto (tgt := 19) hx hb dX5_make_53 (by decide) ?_
  refine lv_iload_n hx hb dX5_make_19 rfl (lv_at hl 0 rfl) ?_
  refine lv_iconst (v := 4) hx hb dX5_make_20 (by decide) ?_
  refine lv_icmp_ge (tgt := 56) hx hb dX5_make_21 (by decide) (fun _ => ?_) (fun c9 => absurd c9 (by decide))
  refine lv_aload_n hx hb dX5_make_56 rfl (lv_at hl 1 rfl) ?_
  have hl9 : f4 0 = 0 := by rw [ef4]; exact pk_uLs
  have hPc := hP.sub (ws' := [(h0, .inr (5, [.ref of, .ref k1, .ref k2, .ref k3, .ref k4, .int 0, .int 0, .int 0])), (of, .inr (2, [.ref g1, .ref g2, .ref g3, .ref g4, .ref g5, .int 0, .ref g6, .ref g7, .ref g8])), (k2, .inl (E.2 2, 128, .inr (.inl f4))), (k3, .inl (E.2 0, 7, .inl (fun _ => 0))), (k4, .inl (E.2 0, 7, .inl (fun _ => 0)))]) [0, 1, 5, 3, 4] rfl
  have hDc := hD.sub (ws' := [(h0, .inr (5, [.ref of, .ref k1, .ref k2, .ref k3, .ref k4, .int 0, .int 0, .int 0])), (of, .inr (2, [.ref g1, .ref g2, .ref g3, .ref g4, .ref g5, .int 0, .ref g6, .ref g7, .ref g8])), (k2, .inl (E.2 2, 128, .inr (.inl f4))), (k3, .inl (E.2 0, 7, .inl (fun _ => 0))), (k4, .inl (E.2 0, 7, .inl (fun _ => 0)))]) [0, 1, 5, 3, 4] (by decide) rfl
  have hFc := va_free (wc := [(h0, .inr (5, [.ref of, .ref k1, .ref k2, .ref k3, .ref k4, .int 0, .int 0, .int 0])), (of, .inr (2, [.ref g1, .ref g2, .ref g3, .ref g4, .ref g5, .int 0, .ref g6, .ref g7, .ref g8])), (k2, .inl (E.2 2, 128, .inr (.inl f4))), (k3, .inl (E.2 0, 7, .inl (fun _ => 0))), (k4, .inl (E.2 0, 7, .inl (fun _ => 0)))]) hD hS hA [0, 1, 5, 3, 4] rfl
  refine va_callv (va_runV (As := []) (rest := []) ⟨hx, hb, hml, hown, hts⟩ (c_X5_choose l E h0 of k1 k2 k3 k4 g1 g2 g3 g4 g5 g6 g7 g8 f4 H.size hl9) (cwV 0 hts gX5_make_X5_choose rfl rfl rfl (by decide +kernel) ⟨Nat.le_of_ble_eq_true rfl, Nat.le_of_ble_eq_true rfl⟩) ⟨pcW_blind, va_recv hK hPc (ci := 5) (q0 := 0) rfl rfl, (pcW_pre hPc hkn hDc hst hS hFc)⟩ rfl rfl hl.1 rfl (lv_room (Nat.le_of_ble_eq_true rfl)) dX5_make_57 ⟨Nat.le_of_ble_eq_true rfl, Nat.le_of_ble_eq_true rfl⟩) hS (fun q _ h => hFc q h) hFc (fun u t H1 locs ht hvm hw10 hB hz1 hk1 hS => ?_)
  obtain ⟨u11, u12⟩ := u
  obtain ⟨hP1, hD1⟩ := hB
  rw [ht] at hP1
  try dsimp only at hw10
  obtain ⟨hP, hD⟩ := va_join (wr := [(g6, .inl (E.2 0, 4, .inl fc))]) (w1 := [(h0, .inr (5, [.ref of, .ref k1, .ref k2, .ref k3, .ref k4, .int 0, .int 0, .int 0])), (of, .inr (2, [.ref g1, .ref g2, .ref g3, .ref g4, .ref g5, .int 0, .ref g6, .ref g7, .ref g8])), (k2, .inl (E.2 2, 128, .inr (.inl f4))), (k3, .inl (E.2 0, 7, .inl u11)), (k4, .inl (E.2 0, 7, .inl u12))]) hP hD [0, 1, 5, 3, 4] [2] rfl rfl (by decide) (by decide) hk1 hFc hP1 hD1
  generalize H1 = H at hP hS ⊢
  have hP : va_P E.1 vwCl [(g6, .inl (E.2 0, 4, .inl fc)), (h0, .inr (5, [.ref of, .ref k1, .ref k2, .ref k3, .ref k4, .int 0, .int 0, .int 0])), (of, .inr (2, [.ref g1, .ref g2, .ref g3, .ref g4, .ref g5, .int 0, .ref g6, .ref g7, .ref g8])), (k2, .inl (E.2 2, 128, .inr (.inl f4))), (k3, .inl (E.2 0, 7, .inl u11)), (k4, .inl (E.2 0, 7, .inl u12))] H := hP
  have hD : va_D A [(g6, .inl (E.2 0, 4, .inl fc)), (h0, .inr (5, [.ref of, .ref k1, .ref k2, .ref k3, .ref k4, .int 0, .int 0, .int 0])), (of, .inr (2, [.ref g1, .ref g2, .ref g3, .ref g4, .ref g5, .int 0, .ref g6, .ref g7, .ref g8])), (k2, .inl (E.2 2, 128, .inr (.inl f4))), (k3, .inl (E.2 0, 7, .inl u11)), (k4, .inl (E.2 0, 7, .inl u12))] := hD
  refine lv_iconst (v := 0) hx hb dX5_make_60 (by decide) ?_
  refine lv_istore_n (lv' := [(1, .int 0), (0, .ref h0)]) hx hb dX5_make_61 rfl hl (by decide) rfl (fun ls hl => ?_)
  refine lv_iload_n hx hb dX5_make_62 rfl (lv_at hl 0 rfl) ?_
  refine lv_iconst (v := 4) hx hb dX5_make_63 (by decide) ?_
  refine lv_icmp_ge (tgt := 78) hx hb dX5_make_64 (by decide) (fun c9 => absurd c9 (by decide)) (fun _ => ?_)
  refine lv_aload_n hx hb dX5_make_67 rfl (lv_at hl 1 rfl) ?_
  refine lv_iload_n hx hb dX5_make_68 rfl (lv_at hl 0 rfl) ?_
  have hPc := hP.sub (ws' := [(h0, .inr (5, [.ref of, .ref k1, .ref k2, .ref k3, .ref k4, .int 0, .int 0, .int 0])), (of, .inr (2, [.ref g1, .ref g2, .ref g3, .ref g4, .ref g5, .int 0, .ref g6, .ref g7, .ref g8]))]) [1, 2] rfl
  have hDc := hD.sub (ws' := [(h0, .inr (5, [.ref of, .ref k1, .ref k2, .ref k3, .ref k4, .int 0, .int 0, .int 0])), (of, .inr (2, [.ref g1, .ref g2, .ref g3, .ref g4, .ref g5, .int 0, .ref g6, .ref g7, .ref g8]))]) [1, 2] (by decide) rfl
  have hFc := va_free (wc := [(h0, .inr (5, [.ref of, .ref k1, .ref k2, .ref k3, .ref k4, .int 0, .int 0, .int 0])), (of, .inr (2, [.ref g1, .ref g2, .ref g3, .ref g4, .ref g5, .int 0, .ref g6, .ref g7, .ref g8]))]) hD hS hA [1, 2] rfl
  refine va_callv (va_runV (As := [.int 0]) (rest := []) ⟨hx, hb, hml, hown, hts⟩ (c_X5_setDays l E h0 of k1 k2 k3 k4 g1 g2 g3 g4 g5 g6 g7 g8 0 H.size ) (cwV 1 hts gX5_make_X5_setDays rfl rfl rfl (by decide +kernel) ⟨Nat.le_of_ble_eq_true rfl, Nat.le_of_ble_eq_true rfl⟩) ⟨pcW_blind, va_recv hK hPc (ci := 5) (q0 := 0) rfl rfl, (pcW_pre hPc hkn hDc hst hS hFc)⟩ rfl rfl hl.1 rfl (lv_room (Nat.le_of_ble_eq_true rfl)) dX5_make_69 ⟨Nat.le_of_ble_eq_true rfl, Nat.le_of_ble_eq_true rfl⟩) hS (fun q _ h => hFc q h) hFc (fun u t H1 locs ht hvm hw14 hB hz1 hk1 hS => ?_)
  obtain ⟨hP1, hD1⟩ := hB
  rw [ht] at hP1
  try dsimp only at hw14
  obtain ⟨hP, hD⟩ := va_join (wr := [(g6, .inl (E.2 0, 4, .inl fc)), (k2, .inl (E.2 2, 128, .inr (.inl f4))), (k3, .inl (E.2 0, 7, .inl u11)), (k4, .inl (E.2 0, 7, .inl u12))]) (w1 := [(h0, .inr (5, [.ref of, .ref k1, .ref k2, .ref k3, .ref k4, .int 0, .int 0, .int 0])), (of, .inr (2, [.ref g1, .ref g2, .ref g3, .ref g4, .ref g5, .int 0, .ref g6, .ref g7, .ref g8]))]) hP hD [1, 2] [0, 3, 4, 5] rfl rfl (by decide) (by decide) hk1 hFc hP1 hD1
  generalize H1 = H at hP hS ⊢
  have hP : va_P E.1 vwCl [(g6, .inl (E.2 0, 4, .inl fc)), (k2, .inl (E.2 2, 128, .inr (.inl f4))), (k3, .inl (E.2 0, 7, .inl u11)), (k4, .inl (E.2 0, 7, .inl u12)), (h0, .inr (5, [.ref of, .ref k1, .ref k2, .ref k3, .ref k4, .int 0, .int 0, .int 0])), (of, .inr (2, [.ref g1, .ref g2, .ref g3, .ref g4, .ref g5, .int 0, .ref g6, .ref g7, .ref g8]))] H := hP
  have hD : va_D A [(g6, .inl (E.2 0, 4, .inl fc)), (k2, .inl (E.2 2, 128, .inr (.inl f4))), (k3, .inl (E.2 0, 7, .inl u11)), (k4, .inl (E.2 0, 7, .inl u12)), (h0, .inr (5, [.ref of, .ref k1, .ref k2, .ref k3, .ref k4, .int 0, .int 0, .int 0])), (of, .inr (2, [.ref g1, .ref g2, .ref g3, .ref g4, .ref g5, .int 0, .ref g6, .ref g7, .ref g8]))] := hD
  refine lv_iinc (v := 1) (lv' := [(1, .int 1), (0, .ref h0)]) hx hb dX5_make_72 hl (k := 0) rfl (by decide) (by decide) rfl (fun ls hl => ?_)
  refine lv_goto (tgt := 62) hx hb dX5_make_75 (by decide) ?_
  refine lv_iload_n hx hb dX5_make_62 rfl (lv_at hl 0 rfl) ?_
  refine lv_iconst (v := 4) hx hb dX5_make_63 (by decide) ?_
  refine lv_icmp_ge (tgt := 78) hx hb dX5_make_64 (by decide) (fun c9 => absurd c9 (by decide)) (fun _ => ?_)
  refine lv_aload_n hx hb dX5_make_67 rfl (lv_at hl 1 rfl) ?_
  refine lv_iload_n hx hb dX5_make_68 rfl (lv_at hl 0 rfl) ?_
  have hPc := hP.sub (ws' := [(h0, .inr (5, [.ref of, .ref k1, .ref k2, .ref k3, .ref k4, .int 0, .int 0, .int 0])), (of, .inr (2, [.ref g1, .ref g2, .ref g3, .ref g4, .ref g5, .int 0, .ref g6, .ref g7, .ref g8]))]) [4, 5] rfl
  have hDc := hD.sub (ws' := [(h0, .inr (5, [.ref of, .ref k1, .ref k2, .ref k3, .ref k4, .int 0, .int 0, .int 0])), (of, .inr (2, [.ref g1, .ref g2, .ref g3, .ref g4, .ref g5, .int 0, .ref g6, .ref g7, .ref g8]))]) [4, 5] (by decide) rfl
  have hFc := va_free (wc := [(h0, .inr (5, [.ref of, .ref k1, .ref k2, .ref k3, .ref k4, .int 0, .int 0, .int 0])), (of, .inr (2, [.ref g1, .ref g2, .ref g3, .ref g4, .ref g5, .int 0, .ref g6, .ref g7, .ref g8]))]) hD hS hA [4, 5] rfl
  refine va_callv (va_runV (As := [.int 1]) (rest := []) ⟨hx, hb, hml, hown, hts⟩ (c_X5_setDays l E h0 of k1 k2 k3 k4 g1 g2 g3 g4 g5 g6 g7 g8 1 H.size ) (cwV 1 hts gX5_make_X5_setDays rfl rfl rfl (by decide +kernel) ⟨Nat.le_of_ble_eq_true rfl, Nat.le_of_ble_eq_true rfl⟩) ⟨pcW_blind, va_recv hK hPc (ci := 5) (q0 := 0) rfl rfl, (pcW_pre hPc hkn hDc hst hS hFc)⟩ rfl rfl hl.1 rfl (lv_room (Nat.le_of_ble_eq_true rfl)) dX5_make_69 ⟨Nat.le_of_ble_eq_true rfl, Nat.le_of_ble_eq_true rfl⟩) hS (fun q _ h => hFc q h) hFc (fun u t H1 locs ht hvm hw16 hB hz1 hk1 hS => ?_)
  obtain ⟨hP1, hD1⟩ := hB
  rw [ht] at hP1
  try dsimp only at hw16
  obtain ⟨hP, hD⟩ := va_join (wr := [(g6, .inl (E.2 0, 4, .inl fc)), (k2, .inl (E.2 2, 128, .inr (.inl f4))), (k3, .inl (E.2 0, 7, .inl u11)), (k4, .inl (E.2 0, 7, .inl u12))]) (w1 := [(h0, .inr (5, [.ref of, .ref k1, .ref k2, .ref k3, .ref k4, .int 0, .int 0, .int 0])), (of, .inr (2, [.ref g1, .ref g2, .ref g3, .ref g4, .ref g5, .int 0, .ref g6, .ref g7, .ref g8]))]) hP hD [4, 5] [0, 1, 2, 3] rfl rfl (by decide) (by decide) hk1 hFc hP1 hD1
  generalize H1 = H at hP hS ⊢
  have hP : va_P E.1 vwCl [(g6, .inl (E.2 0, 4, .inl fc)), (k2, .inl (E.2 2, 128, .inr (.inl f4))), (k3, .inl (E.2 0, 7, .inl u11)), (k4, .inl (E.2 0, 7, .inl u12)), (h0, .inr (5, [.ref of, .ref k1, .ref k2, .ref k3, .ref k4, .int 0, .int 0, .int 0])), (of, .inr (2, [.ref g1, .ref g2, .ref g3, .ref g4, .ref g5, .int 0, .ref g6, .ref g7, .ref g8]))] H := hP
  have hD : va_D A [(g6, .inl (E.2 0, 4, .inl fc)), (k2, .inl (E.2 2, 128, .inr (.inl f4))), (k3, .inl (E.2 0, 7, .inl u11)), (k4, .inl (E.2 0, 7, .inl u12)), (h0, .inr (5, [.ref of, .ref k1, .ref k2, .ref k3, .ref k4, .int 0, .int 0, .int 0])), (of, .inr (2, [.ref g1, .ref g2, .ref g3, .ref g4, .ref g5, .int 0, .ref g6, .ref g7, .ref g8]))] := hD
  refine lv_iinc (v := 2) (lv' := [(1, .int 2), (0, .ref h0)]) hx hb dX5_make_72 hl (k := 0) rfl (by decide) (by decide) rfl (fun ls hl => ?_)
  refine lv_goto (tgt := 62) hx hb dX5_make_75 (by decide) ?_
  refine lv_iload_n hx hb dX5_make_62 rfl (lv_at hl 0 rfl) ?_
  refine lv_iconst (v := 4) hx hb dX5_make_63 (by decide) ?_
  refine lv_icmp_ge (tgt := 78) hx hb dX5_make_64 (by decide) (fun c9 => absurd c9 (by decide)) (fun _ => ?_)
  refine lv_aload_n hx hb dX5_make_67 rfl (lv_at hl 1 rfl) ?_
  refine lv_iload_n hx hb dX5_make_68 rfl (lv_at hl 0 rfl) ?_
  have hPc := hP.sub (ws' := [(h0, .inr (5, [.ref of, .ref k1, .ref k2, .ref k3, .ref k4, .int 0, .int 0, .int 0])), (of, .inr (2, [.ref g1, .ref g2, .ref g3, .ref g4, .ref g5, .int 0, .ref g6, .ref g7, .ref g8]))]) [4, 5] rfl
  have hDc := hD.sub (ws' := [(h0, .inr (5, [.ref of, .ref k1, .ref k2, .ref k3, .ref k4, .int 0, .int 0, .int 0])), (of, .inr (2, [.ref g1, .ref g2, .ref g3, .ref g4, .ref g5, .int 0, .ref g6, .ref g7, .ref g8]))]) [4, 5] (by decide) rfl
  have hFc := va_free (wc := [(h0, .inr (5, [.ref of, .ref k1, .ref k2, .ref k3, .ref k4, .int 0, .int 0, .int 0])), (of, .inr (2, [.ref g1, .ref g2, .ref g3, .ref g4, .ref g5, .int 0, .ref g6, .ref g7, .ref g8]))]) hD hS hA [4, 5] rfl
  refine va_callv (va_runV (As := [.int 2]) (rest := []) ⟨hx, hb, hml, hown, hts⟩ (c_X5_setDays l E h0 of k1 k2 k3 k4 g1 g2 g3 g4 g5 g6 g7 g8 2 H.size ) (cwV 1 hts gX5_make_X5_setDays rfl rfl rfl (by decide +kernel) ⟨Nat.le_of_ble_eq_true rfl, Nat.le_of_ble_eq_true rfl⟩) ⟨pcW_blind, va_recv hK hPc (ci := 5) (q0 := 0) rfl rfl, (pcW_pre hPc hkn hDc hst hS hFc)⟩ rfl rfl hl.1 rfl (lv_room (Nat.le_of_ble_eq_true rfl)) dX5_make_69 ⟨Nat.le_of_ble_eq_true rfl, Nat.le_of_ble_eq_true rfl⟩) hS (fun q _ h => hFc q h) hFc (fun u t H1 locs ht hvm hw18 hB hz1 hk1 hS => ?_)
  obtain ⟨hP1, hD1⟩ := hB
  rw [ht] at hP1
  try dsimp only at hw18
  obtain ⟨hP, hD⟩ := va_join (wr := [(g6, .inl (E.2 0, 4, .inl fc)), (k2, .inl (E.2 2, 128, .inr (.inl f4))), (k3, .inl (E.2 0, 7, .inl u11)), (k4, .inl (E.2 0, 7, .inl u12))]) (w1 := [(h0, .inr (5, [.ref of, .ref k1, .ref k2, .ref k3, .ref k4, .int 0, .int 0, .int 0])), (of, .inr (2, [.ref g1, .ref g2, .ref g3, .ref g4, .ref g5, .int 0, .ref g6, .ref g7, .ref g8]))]) hP hD [4, 5] [0, 1, 2, 3] rfl rfl (by decide) (by decide) hk1 hFc hP1 hD1
  generalize H1 = H at hP hS ⊢
  have hP : va_P E.1 vwCl [(g6, .inl (E.2 0, 4, .inl fc)), (k2, .inl (E.2 2, 128, .inr (.inl f4))), (k3, .inl (E.2 0, 7, .inl u11)), (k4, .inl (E.2 0, 7, .inl u12)), (h0, .inr (5, [.ref of, .ref k1, .ref k2, .ref k3, .ref k4, .int 0, .int 0, .int 0])), (of, .inr (2, [.ref g1, .ref g2, .ref g3, .ref g4, .ref g5, .int 0, .ref g6, .ref g7, .ref g8]))] H := hP
  have hD : va_D A [(g6, .inl (E.2 0, 4, .inl fc)), (k2, .inl (E.2 2, 128, .inr (.inl f4))), (k3, .inl (E.2 0, 7, .inl u11)), (k4, .inl (E.2 0, 7, .inl u12)), (h0, .inr (5, [.ref of, .ref k1, .ref k2, .ref k3, .ref k4, .int 0, .int 0, .int 0])), (of, .inr (2, [.ref g1, .ref g2, .ref g3, .ref g4, .ref g5, .int 0, .ref g6, .ref g7, .ref g8]))] := hD
  refine lv_iinc (v := 3) (lv' := [(1, .int 3), (0, .ref h0)]) hx hb dX5_make_72 hl (k := 0) rfl (by decide) (by decide) rfl (fun ls hl => ?_)
  refine lv_goto (tgt := 62) hx hb dX5_make_75 (by decide) ?_
  refine lv_iload_n hx hb dX5_make_62 rfl (lv_at hl 0 rfl) ?_
  refine lv_iconst (v := 4) hx hb dX5_make_63 (by decide) ?_
  refine lv_icmp_ge (tgt := 78) hx hb dX5_make_64 (by decide) (fun c9 => absurd c9 (by decide)) (fun _ => ?_)
  refine lv_aload_n hx hb dX5_make_67 rfl (lv_at hl 1 rfl) ?_
  refine lv_iload_n hx hb dX5_make_68 rfl (lv_at hl 0 rfl) ?_
  have hPc := hP.sub (ws' := [(h0, .inr (5, [.ref of, .ref k1, .ref k2, .ref k3, .ref k4, .int 0, .int 0, .int 0])), (of, .inr (2, [.ref g1, .ref g2, .ref g3, .ref g4, .ref g5, .int 0, .ref g6, .ref g7, .ref g8]))]) [4, 5] rfl
  have hDc := hD.sub (ws' := [(h0, .inr (5, [.ref of, .ref k1, .ref k2, .ref k3, .ref k4, .int 0, .int 0, .int 0])), (of, .inr (2, [.ref g1, .ref g2, .ref g3, .ref g4, .ref g5, .int 0, .ref g6, .ref g7, .ref g8]))]) [4, 5] (by decide) rfl
  have hFc := va_free (wc := [(h0, .inr (5, [.ref of, .ref k1, .ref k2, .ref k3, .ref k4, .int 0, .int 0, .int 0])), (of, .inr (2, [.ref g1, .ref g2, .ref g3, .ref g4, .ref g5, .int 0, .ref g6, .ref g7, .ref g8]))]) hD hS hA [4, 5] rfl
  refine va_callv (va_runV (As := [.int 3]) (rest := []) ⟨hx, hb, hml, hown, hts⟩ (c_X5_setDays l E h0 of k1 k2 k3 k4 g1 g2 g3 g4 g5 g6 g7 g8 3 H.size ) (cwV 1 hts gX5_make_X5_setDays rfl rfl rfl (by decide +kernel) ⟨Nat.le_of_ble_eq_true rfl, Nat.le_of_ble_eq_true rfl⟩) ⟨pcW_blind, va_recv hK hPc (ci := 5) (q0 := 0) rfl rfl, (pcW_pre hPc hkn hDc hst hS hFc)⟩ rfl rfl hl.1 rfl (lv_room (Nat.le_of_ble_eq_true rfl)) dX5_make_69 ⟨Nat.le_of_ble_eq_true rfl, Nat.le_of_ble_eq_true rfl⟩) hS (fun q _ h => hFc q h) hFc (fun u t H1 locs ht hvm hw20 hB hz1 hk1 hS => ?_)
  obtain ⟨hP1, hD1⟩ := hB
  rw [ht] at hP1
  try dsimp only at hw20
  obtain ⟨hP, hD⟩ := va_join (wr := [(g6, .inl (E.2 0, 4, .inl fc)), (k2, .inl (E.2 2, 128, .inr (.inl f4))), (k3, .inl (E.2 0, 7, .inl u11)), (k4, .inl (E.2 0, 7, .inl u12))]) (w1 := [(h0, .inr (5, [.ref of, .ref k1, .ref k2, .ref k3, .ref k4, .int 0, .int 0, .int 0])), (of, .inr (2, [.ref g1, .ref g2, .ref g3, .ref g4, .ref g5, .int 0, .ref g6, .ref g7, .ref g8]))]) hP hD [4, 5] [0, 1, 2, 3] rfl rfl (by decide) (by decide) hk1 hFc hP1 hD1
  generalize H1 = H at hP hS ⊢
  have hP : va_P E.1 vwCl [(g6, .inl (E.2 0, 4, .inl fc)), (k2, .inl (E.2 2, 128, .inr (.inl f4))), (k3, .inl (E.2 0, 7, .inl u11)), (k4, .inl (E.2 0, 7, .inl u12)), (h0, .inr (5, [.ref of, .ref k1, .ref k2, .ref k3, .ref k4, .int 0, .int 0, .int 0])), (of, .inr (2, [.ref g1, .ref g2, .ref g3, .ref g4, .ref g5, .int 0, .ref g6, .ref g7, .ref g8]))] H := hP
  have hD : va_D A [(g6, .inl (E.2 0, 4, .inl fc)), (k2, .inl (E.2 2, 128, .inr (.inl f4))), (k3, .inl (E.2 0, 7, .inl u11)), (k4, .inl (E.2 0, 7, .inl u12)), (h0, .inr (5, [.ref of, .ref k1, .ref k2, .ref k3, .ref k4, .int 0, .int 0, .int 0])), (of, .inr (2, [.ref g1, .ref g2, .ref g3, .ref g4, .ref g5, .int 0, .ref g6, .ref g7, .ref g8]))] := hD
  refine lv_iinc (v := 4) (lv' := [(1, .int 4), (0, .ref h0)]) hx hb dX5_make_72 hl (k := 0) rfl (by decide) (by decide) rfl (fun ls hl => ?_)
  refine lv_goto (tgt := 62) hx hb dX5_make_75 (by decide) ?_
  refine lv_iload_n hx hb dX5_make_62 rfl (lv_at hl 0 rfl) ?_
  refine lv_iconst (v := 4) hx hb dX5_make_63 (by decide) ?_
  refine lv_icmp_ge (tgt := 78) hx hb dX5_make_64 (by decide) (fun _ => ?_) (fun c9 => absurd c9 (by decide))
  refine lv_aload_n hx hb dX5_make_78 rfl (lv_at hl 1 rfl) ?_
  refine lv_iconst (v := 1) hx hb dX5_make_79 (by decide) ?_
  refine va_put (D := E.1) (ci := 5) (v := .int 1) (ty := .boolean) (C := RX5) (T := TX5) (N := 8) hx hb hts inX5 tyX5 tyX5_ok nmX5 hown hK hP hD hS 4 rfl rfl 5 (by decide) fl22 (fun _ h9 => h9) rfl (by decide +kernel) (by first | rfl | decide) (by first | rfl | decide) (Nat.le_of_ble_eq_true rfl) dX5_make_80 (fun H locs hP hD hS => ?_)
  have hP : va_P E.1 vwCl [(g6, .inl (E.2 0, 4, .inl fc)), (k2, .inl (E.2 2, 128, .inr (.inl f4))), (k3, .inl (E.2 0, 7, .inl u11)), (k4, .inl (E.2 0, 7, .inl u12)), (h0, .inr (5, [.ref of, .ref k1, .ref k2, .ref k3, .ref k4, .int 1, .int 0, .int 0])), (of, .inr (2, [.ref g1, .ref g2, .ref g3, .ref g4, .ref g5, .int 0, .ref g6, .ref g7, .ref g8]))] H := hP
  have hD : va_D A [(g6, .inl (E.2 0, 4, .inl fc)), (k2, .inl (E.2 2, 128, .inr (.inl f4))), (k3, .inl (E.2 0, 7, .inl u11)), (k4, .inl (E.2 0, 7, .inl u12)), (h0, .inr (5, [.ref of, .ref k1, .ref k2, .ref k3, .ref k4, .int 1, .int 0, .int 0])), (of, .inr (2, [.ref g1, .ref g2, .ref g3, .ref g4, .ref g5, .int 0, .ref g6, .ref g7, .ref g8]))] := hD
  have hP9 := hP.sub (ws' := [(h0, .inr (5, [.ref of, .ref k1, .ref k2, .ref k3, .ref k4, .int 1, .int 0, .int 0]))]) [4] rfl
  have hD9 := hD.sub (ws' := [(h0, .inr (5, [.ref of, .ref k1, .ref k2, .ref k3, .ref k4, .int 1, .int 0, .int 0]))]) [4] (by decide) rfl
  exact W.vret hx hb hr (fun t ht hW => ⟨⟨(), rfl, trivial, by rw [ht]; exact hP9, hD9⟩, hS.F ht⟩) hS.2.2 dX5_make_83
set_option maxHeartbeats 4000000 in
set_option maxRecDepth 100000 in
theorem c_X11_plan (l : Launch) (E : vE) (h0 : Nat) (tp : Nat) (rd : Nat) (se : Nat) (ba : Nat) (of : Nat) (pl : Nat) (sr : Nat) (sc : Nat) (g1 : Nat) (g2 : Nat) (g3 : Nat) (g4 : Nat) (g5 : Nat) (g6 : Nat) (g7 : Nat) (g8 : Nat) (k1 : Nat) (k2 : Nat) (k3 : Nat) (k4 : Nat) (fc : Nat → Int32) (sz : Nat) (hfc : ∀ k, k < 4 → fc k = -1) : Met l yX11_plan wsX11_plan ({ frames := 3, cells := 0, slots := 0, locals := 72 }) (pcW E [.ref h0] sz [(h0, .inr (11, [.ref tp, .ref rd, .ref se, .ref ba, .ref of, .ref pl, .ref sr, .ref sc, .int 0])), (pl, .inr (5, [.ref of, .ref k1, .ref k2, .ref k3, .ref k4, .int 0, .int 0, .int 0])), (of, .inr (2, [.ref g1, .ref g2, .ref g3, .ref g4, .ref g5, .int 0, .ref g6, .ref g7, .ref g8])), (g6, .inl (E.2 0, 4, .inl fc)), (k2, .inl (E.2 2, 128, .inr (.inl (fun _ => 0)))), (k3, .inl (E.2 0, 7, .inl (fun _ => 0))), (k4, .inl (E.2 0, 7, .inl (fun _ => 0)))]) (va_Qi (fun (r : Int32) (_ : Unit) => r = 0) (fun (_ : Unit) (t : State) => wB E (va_A [(h0, .inr (11, [.ref tp, .ref rd, .ref se, .ref ba, .ref of, .ref pl, .ref sr, .ref sc, .int 0])), (pl, .inr (5, [.ref of, .ref k1, .ref k2, .ref k3, .ref k4, .int 0, .int 0, .int 0])), (of, .inr (2, [.ref g1, .ref g2, .ref g3, .ref g4, .ref g5, .int 0, .ref g6, .ref g7, .ref g8])), (g6, .inl (E.2 0, 4, .inl fc)), (k2, .inl (E.2 2, 128, .inr (.inl (fun _ => 0)))), (k3, .inl (E.2 0, 7, .inl (fun _ => 0))), (k4, .inl (E.2 0, 7, .inl (fun _ => 0)))] sz) [] t) (va_A [(h0, .inr (11, [.ref tp, .ref rd, .ref se, .ref ba, .ref of, .ref pl, .ref sr, .ref sc, .int 0])), (pl, .inr (5, [.ref of, .ref k1, .ref k2, .ref k3, .ref k4, .int 0, .int 0, .int 0])), (of, .inr (2, [.ref g1, .ref g2, .ref g3, .ref g4, .ref g5, .int 0, .ref g6, .ref g7, .ref g8])), (g6, .inl (E.2 0, 4, .inl fc)), (k2, .inl (E.2 2, 128, .inr (.inl (fun _ => 0)))), (k3, .inl (E.2 0, 7, .inl (fun _ => 0))), (k4, .inl (E.2 0, 7, .inl (fun _ => 0)))] sz)) 0 0 (va_A [(h0, .inr (11, [.ref tp, .ref rd, .ref se, .ref ba, .ref of, .ref pl, .ref sr, .ref sc, .int 0])), (pl, .inr (5, [.ref of, .ref k1, .ref k2, .ref k3, .ref k4, .int 0, .int 0, .int 0])), (of, .inr (2, [.ref g1, .ref g2, .ref g3, .ref g4, .ref g5, .int 0, .ref g6, .ref g7, .ref g8])), (g6, .inl (E.2 0, 4, .inl fc)), (k2, .inl (E.2 2, 128, .inr (.inl (fun _ => 0)))), (k3, .inl (E.2 0, 7, .inl (fun _ => 0))), (k4, .inl (E.2 0, 7, .inl (fun _ => 0)))] sz) := by
  refine Met.ofW (cc := cX11_plan) (maxL := 1) (ret := (some .int)) (by decide) rfl ?_
  intro p e s m args below meth c s₁ B hml hv
  obtain ⟨rfl, hsz, hP, hkn, hD0, hst⟩ := hv
  have hx := B.exec
  have hb := B.bytes
  have hr := B.returns
  have hts := atoms_spec (ws := wsX11_plan) B.pre
  have hown : s.vm.findClass RX11 = some m.cls := findClass_of_methodNamed B.named
  have hlocks := B.notSynchronized
  subst hsz
  have hD := hD0.self (sz := s.heap.size)
  have hK := hkn.1
  have hAO := hkn.2.2
  generalize hAe : va_A [(h0, .inr (11, [.ref tp, .ref rd, .ref se, .ref ba, .ref of, .ref pl, .ref sr, .ref sc, .int 0])), (pl, .inr (5, [.ref of, .ref k1, .ref k2, .ref k3, .ref k4, .int 0, .int 0, .int 0])), (of, .inr (2, [.ref g1, .ref g2, .ref g3, .ref g4, .ref g5, .int 0, .ref g6, .ref g7, .ref g8])), (g6, .inl (E.2 0, 4, .inl fc)), (k2, .inl (E.2 2, 128, .inr (.inl (fun _ => 0)))), (k3, .inl (E.2 0, 7, .inl (fun _ => 0))), (k4, .inl (E.2 0, 7, .inl (fun _ => 0)))] s.heap.size = A at hD hst ⊢
  have hA : ∀ q : Nat, s.heap.size ≤ q → A q := fun q h => by rw [← hAe]; exact Or.inr h
  have hS : va_S A s.heap s.heap [] := va_S.rf
  have hP : va_P E.1 vwCl [(h0, .inr (11, [.ref tp, .ref rd, .ref se, .ref ba, .ref of, .ref pl, .ref sr, .ref sc, .int 0])), (pl, .inr (5, [.ref of, .ref k1, .ref k2, .ref k3, .ref k4, .int 0, .int 0, .int 0])), (of, .inr (2, [.ref g1, .ref g2, .ref g3, .ref g4, .ref g5, .int 0, .ref g6, .ref g7, .ref g8])), (g6, .inl (E.2 0, 4, .inl fc)), (k2, .inl (E.2 2, 128, .inr (.inl (fun _ => 0)))), (k3, .inl (E.2 0, 7, .inl (fun _ => 0))), (k4, .inl (E.2 0, 7, .inl (fun _ => 0)))] s.heap := hP
  have hl := lv_entry ([.ref h0]) (n := 1) (Nat.le_of_ble_eq_true rfl)
  rw [lg_entry_eq]
  generalize (lg_sl ([.ref h0]) ++ List.replicate (1 - (lg_sl ([.ref h0])).length) Slot.unset).toArray = ls at hl ⊢
  have hl : lv_has ls 1 [(0, .ref h0)] := hl
  have fl51 := hts (.fieldLink RX11 51 "BoatsHome" "latestPlan" "LBoatsHome$Plan;") (by decide +kernel)
  have fl198 := hts (.fieldLink RX11 198 "BoatsHome$Plan" "made" "Z") (by decide +kernel)
  have fl218 := hts (.fieldLink RX11 218 "BoatsHome$Plan" "done" "I") (by decide +kernel)
  have inX11 : ∀ w ∈ u_ws RX11 TX11 9, w ∈ wsX11_plan := by decide +kernel
  have inX5 : ∀ w ∈ u_ws RX5 TX5 8, w ∈ wsX11_plan := by decide +kernel
  refine lv_aload_n hx hb dX11_plan_0 rfl (lv_at hl 0 rfl) ?_
  refine va_get (D := E.1) (ci := 11) (v := .ref pl) (C := RX11) (T := TX11) (N := 9) hx hb hts inX11 hown hK hP 0 rfl rfl 5 (by decide) fl51 (fun _ h9 => h9) rfl dX11_plan_1 ?_
  refine va_get (D := E.1) (ci := 5) (v := .int 0) (C := RX5) (T := TX5) (N := 8) hx hb hts inX5 hown hK hP 1 rfl rfl 5 (by decide) fl198 (fun _ h9 => h9) rfl dX11_plan_4 ?_
  refine lv_if_ne (tgt := 17) hx hb dX11_plan_7 (by decide) (fun c9 => absurd c9 (by decide)) (fun _ => ?_)
  refine lv_aload_n hx hb dX11_plan_10 rfl (lv_at hl 0 rfl) ?_
  refine va_get (D := E.1) (ci := 11) (v := .ref pl) (C := RX11) (T := TX11) (N := 9) hx hb hts inX11 hown hK hP 0 rfl rfl 5 (by decide) fl51 (fun _ h9 => h9) rfl dX11_plan_11 ?_
  have hPc := hP.sub (ws' := [(pl, .inr (5, [.ref of, .ref k1, .ref k2, .ref k3, .ref k4, .int 0, .int 0, .int 0])), (of, .inr (2, [.ref g1, .ref g2, .ref g3, .ref g4, .ref g5, .int 0, .ref g6, .ref g7, .ref g8])), (g6, .inl (E.2 0, 4, .inl fc)), (k2, .inl (E.2 2, 128, .inr (.inl (fun _ => 0)))), (k3, .inl (E.2 0, 7, .inl (fun _ => 0))), (k4, .inl (E.2 0, 7, .inl (fun _ => 0)))]) [1, 2, 3, 4, 5, 6] rfl
  have hDc := hD.sub (ws' := [(pl, .inr (5, [.ref of, .ref k1, .ref k2, .ref k3, .ref k4, .int 0, .int 0, .int 0])), (of, .inr (2, [.ref g1, .ref g2, .ref g3, .ref g4, .ref g5, .int 0, .ref g6, .ref g7, .ref g8])), (g6, .inl (E.2 0, 4, .inl fc)), (k2, .inl (E.2 2, 128, .inr (.inl (fun _ => 0)))), (k3, .inl (E.2 0, 7, .inl (fun _ => 0))), (k4, .inl (E.2 0, 7, .inl (fun _ => 0)))]) [1, 2, 3, 4, 5, 6] (by decide) rfl
  have hFc := va_free (wc := [(pl, .inr (5, [.ref of, .ref k1, .ref k2, .ref k3, .ref k4, .int 0, .int 0, .int 0])), (of, .inr (2, [.ref g1, .ref g2, .ref g3, .ref g4, .ref g5, .int 0, .ref g6, .ref g7, .ref g8])), (g6, .inl (E.2 0, 4, .inl fc)), (k2, .inl (E.2 2, 128, .inr (.inl (fun _ => 0)))), (k3, .inl (E.2 0, 7, .inl (fun _ => 0))), (k4, .inl (E.2 0, 7, .inl (fun _ => 0)))]) hD hS hA [1, 2, 3, 4, 5, 6] rfl
  refine va_callv (va_runV (As := []) (rest := []) ⟨hx, hb, hml, hown, hts⟩ (c_X5_make l E pl of k1 k2 k3 k4 g1 g2 g3 g4 g5 g6 g7 g8 fc s.heap.size hfc) (cwV 0 hts gX11_plan_X5_make rfl rfl rfl (by decide +kernel) ⟨Nat.le_of_ble_eq_true rfl, Nat.le_of_ble_eq_true rfl⟩) ⟨pcW_blind, va_recv hK hPc (ci := 5) (q0 := 0) rfl rfl, (pcW_pre hPc hkn hDc hst hS hFc)⟩ rfl rfl hl.1 rfl (lv_room (Nat.le_of_ble_eq_true rfl)) dX11_plan_14 ⟨Nat.le_of_ble_eq_true rfl, Nat.le_of_ble_eq_true rfl⟩) hS (fun q _ h => hFc q h) hFc (fun u t H1 locs ht hvm hw2 hB hz1 hk1 hS => ?_)
  obtain ⟨hP1, hD1⟩ := hB
  rw [ht] at hP1
  try dsimp only at hw2
  obtain ⟨hP, hD⟩ := va_join (wr := [(h0, .inr (11, [.ref tp, .ref rd, .ref se, .ref ba, .ref of, .ref pl, .ref sr, .ref sc, .int 0]))]) (w1 := [(pl, .inr (5, [.ref of, .ref k1, .ref k2, .ref k3, .ref k4, .int 1, .int 0, .int 0]))]) hP hD [1, 2, 3, 4, 5, 6] [0] rfl rfl (by decide) (by decide) hk1 hFc hP1 hD1
  generalize H1 = H at hP hS ⊢
  have hP : va_P E.1 vwCl [(h0, .inr (11, [.ref tp, .ref rd, .ref se, .ref ba, .ref of, .ref pl, .ref sr, .ref sc, .int 0])), (pl, .inr (5, [.ref of, .ref k1, .ref k2, .ref k3, .ref k4, .int 1, .int 0, .int 0]))] H := hP
  have hD : va_D A [(h0, .inr (11, [.ref tp, .ref rd, .ref se, .ref ba, .ref of, .ref pl, .ref sr, .ref sc, .int 0])), (pl, .inr (5, [.ref of, .ref k1, .ref k2, .ref k3, .ref k4, .int 1, .int 0, .int 0]))] := hD
  refine lv_aload_n hx hb dX11_plan_17 rfl (lv_at hl 0 rfl) ?_
  refine va_get (D := E.1) (ci := 11) (v := .ref pl) (C := RX11) (T := TX11) (N := 9) hx hb hts inX11 hown hK hP 0 rfl rfl 5 (by decide) fl51 (fun _ h9 => h9) rfl dX11_plan_18 ?_
  refine va_get (D := E.1) (ci := 5) (v := .int 0) (C := RX5) (T := TX5) (N := 8) hx hb hts inX5 hown hK hP 1 rfl rfl 6 (by decide) fl218 (fun _ h9 => h9) rfl dX11_plan_21 ?_
  have hP9 := hP.sub (ws' := []) [] rfl
  have hD9 := hD.sub (ws' := []) [] (by decide) rfl
  exact W.iret (v := 0) hx hb hr (fun t ht hW => ⟨⟨0, (), rfl, rfl, by rw [ht]; exact hP9, hD9⟩, hS.F ht⟩) hS.2.2 dX11_plan_24
