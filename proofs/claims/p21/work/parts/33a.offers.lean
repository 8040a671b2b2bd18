set_option maxHeartbeats 4000000 in
set_option maxRecDepth 100000 in
theorem lp_offers {p : Program} {l : Launch} {e : Env} {R : Room} {s : State} {m : MethodId} {args : Array Value} {below : List Frame} {meth : Method} {c : Code} {cells slots : Nat} {Q : State → Prop} {A : Nat → Prop} (E : vE) (h0 : Nat) (q1 : Nat) (q2 : Nat) (q3 : Nat) (q4 : Nat) (q5 : Nat) (q6 : Nat) (q7 : Nat) (q8 : Nat) (fc : Nat → Int32) (hx : p.tables.exec = Jvm.exec) (hb : c.code = cX2_init) (hml : c.maxLocals = 2) (hown : s.vm.findClass RX2 = some m.cls) (hts : ∀ w ∈ wsX2_init, w.before args s = true) (hkn : kn E s) (hst : st E A s s.heap) (hA : ∀ q : Nat, s.heap.size ≤ q → A q) (kk : ∀ (f : Nat → Int32) (H : Heap) (locs : List Loc) (ls : Array Slot), (∀ k, k < 100 → f k = if k % 11 = 0 then 0 else -1) → va_P E.1 vwCl [(h0, .inr (2, [.ref q1, .ref q2, .ref q3, .ref q4, .ref q5, .int 0, .ref q6, .ref q7, .ref q8])), (q1, .inl (E.2.1 0, 7, .inl (fun _ => 0))), (q2, .inl (E.2.1 0, 7, .inl (fun _ => 0))), (q3, .inl (E.2.1 0, 7, .inl (fun _ => 0))), (q4, .inl (E.2.1 0, 7, .inl (fun _ => 0))), (q5, .inl (E.2.1 0, 7, .inl (fun _ => 0))), (q6, .inl (E.2.1 0, 4, .inl fc)), (q7, .inl (E.2.1 0, 4, .inl (fun _ => 0))), (q8, .inl (E.2.1 0, 100, .inl f))] H → va_D A [(h0, .inr (2, [.ref q1, .ref q2, .ref q3, .ref q4, .ref q5, .int 0, .ref q6, .ref q7, .ref q8])), (q1, .inl (E.2.1 0, 7, .inl (fun _ => 0))), (q2, .inl (E.2.1 0, 7, .inl (fun _ => 0))), (q3, .inl (E.2.1 0, 7, .inl (fun _ => 0))), (q4, .inl (E.2.1 0, 7, .inl (fun _ => 0))), (q5, .inl (E.2.1 0, 7, .inl (fun _ => 0))), (q6, .inl (E.2.1 0, 4, .inl fc)), (q7, .inl (E.2.1 0, 4, .inl (fun _ => 0))), (q8, .inl (E.2.1 0, 100, .inl f))] → va_S A s.heap H locs → lv_has ls 2 [(0, .ref h0)] → W p l e R s m args below meth c H locs cells slots Q (F0 m 121 ls [])) : ∀ (n0 : Nat) (i : Nat) (f : Nat → Int32) (H : Heap) (locs : List Loc) (ls : Array Slot), 10 - i < n0 → (i ≤ 10) → (∀ k, k < 100 → f k = if k % 11 = 0 ∧ k < 11 * i then 0 else -1) → va_P E.1 vwCl [(h0, .inr (2, [.ref q1, .ref q2, .ref q3, .ref q4, .ref q5, .int 0, .ref q6, .ref q7, .ref q8])), (q1, .inl (E.2.1 0, 7, .inl (fun _ => 0))), (q2, .inl (E.2.1 0, 7, .inl (fun _ => 0))), (q3, .inl (E.2.1 0, 7, .inl (fun _ => 0))), (q4, .inl (E.2.1 0, 7, .inl (fun _ => 0))), (q5, .inl (E.2.1 0, 7, .inl (fun _ => 0))), (q6, .inl (E.2.1 0, 4, .inl fc)), (q7, .inl (E.2.1 0, 4, .inl (fun _ => 0))), (q8, .inl (E.2.1 0, 100, .inl f))] H → va_D A [(h0, .inr (2, [.ref q1, .ref q2, .ref q3, .ref q4, .ref q5, .int 0, .ref q6, .ref q7, .ref q8])), (q1, .inl (E.2.1 0, 7, .inl (fun _ => 0))), (q2, .inl (E.2.1 0, 7, .inl (fun _ => 0))), (q3, .inl (E.2.1 0, 7, .inl (fun _ => 0))), (q4, .inl (E.2.1 0, 7, .inl (fun _ => 0))), (q5, .inl (E.2.1 0, 7, .inl (fun _ => 0))), (q6, .inl (E.2.1 0, 4, .inl fc)), (q7, .inl (E.2.1 0, 4, .inl (fun _ => 0))), (q8, .inl (E.2.1 0, 100, .inl f))] → va_S A s.heap H locs → lv_has ls 2 [(0, .ref h0), (1, .int (nI i))] → W p l e R s m args below meth c H locs cells slots Q (F0 m 97 ls []) := by
  have hK := hkn.1
  have hAO := hkn.2.2.1
  have fl9 := hts (.fieldLink RX2 9 "BoatsHome$Offers" "from" "[I") (by first | exact List.mem_of_getElem? (i := 5) rfl | decide +kernel)
  have fl15 := hts (.fieldLink RX2 15 "BoatsHome$Offers" "to" "[I") (by first | exact List.mem_of_getElem? (i := 6) rfl | decide +kernel)
  have fl18 := hts (.fieldLink RX2 18 "BoatsHome$Offers" "days" "[I") (by first | exact List.mem_of_getElem? (i := 7) rfl | decide +kernel)
  have fl21 := hts (.fieldLink RX2 21 "BoatsHome$Offers" "first" "[I") (by first | exact List.mem_of_getElem? (i := 8) rfl | decide +kernel)
  have fl24 := hts (.fieldLink RX2 24 "BoatsHome$Offers" "last" "[I") (by first | exact List.mem_of_getElem? (i := 9) rfl | decide +kernel)
  have fl27 := hts (.fieldLink RX2 27 "BoatsHome$Offers" "size" "I") (by first | exact List.mem_of_getElem? (i := 10) rfl | decide +kernel)
  have fl31 := hts (.fieldLink RX2 31 "BoatsHome$Offers" "crewPorts" "[I") (by first | exact List.mem_of_getElem? (i := 11) rfl | decide +kernel)
  have fl34 := hts (.fieldLink RX2 34 "BoatsHome$Offers" "crewDays" "[I") (by first | exact List.mem_of_getElem? (i := 12) rfl | decide +kernel)
  have fl37 := hts (.fieldLink RX2 37 "BoatsHome$Offers" "fares" "[I") (by first | exact List.mem_of_getElem? (i := 13) rfl | decide +kernel)
  have inX2 : ∀ w ∈ u_ws RX2 TX2 9, w ∈ wsX2_init := by first | exact fun w h9 => (List.mem_cons_of_mem _ (List.mem_append_right _ h9)) | decide +kernel
  intro n0
  induction n0 with
  | zero =>
    intro i f H locs ls hn0
    exact absurd hn0 (Nat.not_lt_zero _)
  | succ n0 ih =>
    intro i f H locs ls hn0 hi hf hP hD hS hl
    refine lv_iload_n hx hb dX2_init_97 rfl (lv_at hl 1 rfl) ?_
    refine lv_bipush (v := 10) hx hb dX2_init_98 (by decide) ?_
    refine lv_icmp_ge (tgt := 121) hx hb dX2_init_100 (by decide) (fun c_1 => ?_) (fun c_1 => ?_)
    · have hge : 10 ≤ i := by
        rcases Nat.lt_or_ge i 10 with q | q
        · exact absurd c_1 (nI_ge (b := 10) q (by decide))
        · exact q
      exact kk f _ _ _ (fun k hk => by
              rw [hf k hk]
              by_cases h2 : k % 11 = 0
              · rw [if_pos h2, if_pos ⟨h2, by omega⟩]
              · rw [if_neg h2, if_neg (fun h => h2 h.1)]) (hP.sub [0, 1, 2, 3, 4, 5, 6, 7, 8] rfl) (hD.sub [0, 1, 2, 3, 4, 5, 6, 7, 8] (by decide) rfl) hS (lv_sub hl [0] rfl)
    · have hlt : i < 10 := by
        rcases Nat.lt_or_ge i 10 with q | q
        · exact q
        · exact absurd (show (10 : Int32) ≤ nI i from nI_le (a := 10) q (by omega)) c_1
      refine lv_aload_n hx hb dX2_init_103 rfl (lv_at hl 0 rfl) ?_
      refine va_get (D := E.1) (ci := 2) (v := .ref q8) (C := RX2) (T := TX2) (N := 9) hx hb hts inX2 hown hK hP 0 rfl rfl 8 (by decide) fl37 (fun _ h9 => h9) rfl dX2_init_104 ?_
      refine lv_iload_n hx hb dX2_init_107 rfl (lv_at hl 1 rfl) ?_
      refine lv_bipush (v := 10) hx hb dX2_init_108 (by decide) ?_
      refine lv_imul hx hb dX2_init_110 ?_
      refine lv_topi (fun x_2 ex_2 => ?_)
      obtain rfl : x_2 = nI (i * 10) := ex_2.trans (pk_mul i 10)
      refine lv_iload_n hx hb dX2_init_111 rfl (lv_at hl 1 rfl) ?_
      refine lv_iadd hx hb dX2_init_112 ?_
      refine lv_topi (fun x_3 ex_3 => ?_)
      obtain rfl : x_3 = nI ((i * 10) + i) := ex_3.trans (nI_add (i * 10) i)
      refine lv_iconst (v := 0) hx hb dX2_init_113 (by decide) ?_
      have hi_4 : vp_in (nI ((i * 10) + i)) 100 := vp_in_nI (by omega) (by decide)
      refine va_iast hx hb hK hP hD hS 8 0 rfl rfl hi_4 dX2_init_114 (fun H locs hP hD hS => ?_)
      have hP : va_P E.1 vwCl [(h0, .inr (2, [.ref q1, .ref q2, .ref q3, .ref q4, .ref q5, .int 0, .ref q6, .ref q7, .ref q8])), (q1, .inl (E.2.1 0, 7, .inl (fun _ => 0))), (q2, .inl (E.2.1 0, 7, .inl (fun _ => 0))), (q3, .inl (E.2.1 0, 7, .inl (fun _ => 0))), (q4, .inl (E.2.1 0, 7, .inl (fun _ => 0))), (q5, .inl (E.2.1 0, 7, .inl (fun _ => 0))), (q6, .inl (E.2.1 0, 4, .inl fc)), (q7, .inl (E.2.1 0, 4, .inl (fun _ => 0))), (q8, .inl (E.2.1 0, 100, .inl (upd f (nI ((i * 10) + i)).toNatClampNeg 0)))] H := hP
      have hD : va_D A [(h0, .inr (2, [.ref q1, .ref q2, .ref q3, .ref q4, .ref q5, .int 0, .ref q6, .ref q7, .ref q8])), (q1, .inl (E.2.1 0, 7, .inl (fun _ => 0))), (q2, .inl (E.2.1 0, 7, .inl (fun _ => 0))), (q3, .inl (E.2.1 0, 7, .inl (fun _ => 0))), (q4, .inl (E.2.1 0, 7, .inl (fun _ => 0))), (q5, .inl (E.2.1 0, 7, .inl (fun _ => 0))), (q6, .inl (E.2.1 0, 4, .inl fc)), (q7, .inl (E.2.1 0, 4, .inl (fun _ => 0))), (q8, .inl (E.2.1 0, 100, .inl (upd f (nI ((i * 10) + i)).toNatClampNeg 0)))] := hD
      obtain ⟨f_5, ef_5⟩ : ∃ g : Nat → Int32, g = upd f (nI ((i * 10) + i)).toNatClampNeg 0 := ⟨_, rfl⟩
      rw [← ef_5] at hP hD
      refine lv_iinc (v := (nI (i + 1))) (lv' := [(1, .int (nI (i + 1))), (0, .ref h0)]) hx hb dX2_init_115 hl (k := 1) rfl (show nI i + 1 = nI (i + 1) from nI_1 i) (by decide) rfl (fun ls hl => ?_)
      refine lv_goto (tgt := 97) hx hb dX2_init_118 (by decide) ?_
      exact ih (i + 1) f_5 _ _ _ (by omega) (by omega) (by
            intro k hk
            have h1 := hf k hk
            rw [ef_5, nI_clamp (by omega)]
            by_cases hki : k = i * 10 + i
            · rw [hki, pk_us, if_pos (by omega)]
            · rw [pk_un hki, h1]
              by_cases h2 : k % 11 = 0 ∧ k < 11 * i
              · rw [if_pos h2, if_pos (by omega)]
              · rw [if_neg h2, if_neg (by omega)]) (hP.sub [0, 1, 2, 3, 4, 5, 6, 7, 8] rfl) (hD.sub [0, 1, 2, 3, 4, 5, 6, 7, 8] (by decide) rfl) hS (lv_sub hl [1, 0] rfl)
set_option maxHeartbeats 4000000 in
set_option maxRecDepth 100000 in
theorem c_X2_init (l : Launch) (E : vE) (h0 : Nat) (sz : Nat) : Met l yX2_init wsX2_init ({ frames := 1, cells := 8, slots := 143, locals := 23 }) (pcW E [.ref h0] sz [(h0, .inr (2, [.null, .null, .null, .null, .null, .int 0, .null, .null, .null]))]) (va_Qv (fun (_ : Unit) => True) (fun (_ : Unit) (t : State) => ∃ (q1 : Nat), ∃ (q2 : Nat), ∃ (q3 : Nat), ∃ (q4 : Nat), ∃ (q5 : Nat), ∃ (q6 : Nat), ∃ (q7 : Nat), ∃ (q8 : Nat), ∃ (fc : Nat → Int32), ∃ (ff : Nat → Int32), (∀ k, k < 4 → fc k = -1) ∧ (∀ k, k < 100 → ff k = if k % 11 = 0 then 0 else -1) ∧ wB E (va_A [(h0, .inr (2, [.null, .null, .null, .null, .null, .int 0, .null, .null, .null]))] sz) [(h0, .inr (2, [.ref q1, .ref q2, .ref q3, .ref q4, .ref q5, .int 0, .ref q6, .ref q7, .ref q8])), (q1, .inl (E.2.1 0, 7, .inl (fun _ => 0))), (q2, .inl (E.2.1 0, 7, .inl (fun _ => 0))), (q3, .inl (E.2.1 0, 7, .inl (fun _ => 0))), (q4, .inl (E.2.1 0, 7, .inl (fun _ => 0))), (q5, .inl (E.2.1 0, 7, .inl (fun _ => 0))), (q6, .inl (E.2.1 0, 4, .inl fc)), (q7, .inl (E.2.1 0, 4, .inl (fun _ => 0))), (q8, .inl (E.2.1 0, 100, .inl ff))] t) (va_A [(h0, .inr (2, [.null, .null, .null, .null, .null, .int 0, .null, .null, .null]))] sz)) 8 143 (va_A [(h0, .inr (2, [.null, .null, .null, .null, .null, .int 0, .null, .null, .null]))] sz) := by
  refine Met.ofW (cc := cX2_init) (maxL := 2) (ret := none) (by decide) rfl ?_
  intro p e s m args below meth c s₁ B hml hv
  obtain ⟨rfl, hsz, hP, hkn, hD0, hst⟩ := hv
  have hx := B.exec
  have hb := B.bytes
  have hr := B.returns
  have hts := atoms_spec (ws := wsX2_init) B.pre
  have hown : s.vm.findClass RX2 = some m.cls := findClass_of_methodNamed B.named
  have hlocks := B.notSynchronized
  have hin : meth.name = "<init>" := (name_of_methodNamed B.named B.method).1
  subst hsz
  have hD := hD0.self (sz := s.heap.size)
  have hK := hkn.1
  have hAO := hkn.2.2.1
  generalize hAe : va_A [(h0, .inr (2, [.null, .null, .null, .null, .null, .int 0, .null, .null, .null]))] s.heap.size = A at hD hst ⊢
  have hA : ∀ q : Nat, s.heap.size ≤ q → A q := fun q h => by rw [← hAe]; exact Or.inr h
  have hS : va_S A s.heap s.heap [] := va_S.rf
  have hP : va_P E.1 vwCl [(h0, .inr (2, [.null, .null, .null, .null, .null, .int 0, .null, .null, .null]))] s.heap := hP
  have hl := lv_entry ([.ref h0]) (n := 2) (Nat.le_of_ble_eq_true rfl)
  rw [lg_entry_eq]
  generalize (lg_sl ([.ref h0]) ++ List.replicate (2 - (lg_sl ([.ref h0])).length) Slot.unset).toArray = ls at hl ⊢
  have hl : lv_has ls 2 [(0, .ref h0)] := hl
  have fl9 := hts (.fieldLink RX2 9 "BoatsHome$Offers" "from" "[I") (by first | exact List.mem_of_getElem? (i := 5) rfl | decide +kernel)
  have fl15 := hts (.fieldLink RX2 15 "BoatsHome$Offers" "to" "[I") (by first | exact List.mem_of_getElem? (i := 6) rfl | decide +kernel)
  have fl18 := hts (.fieldLink RX2 18 "BoatsHome$Offers" "days" "[I") (by first | exact List.mem_of_getElem? (i := 7) rfl | decide +kernel)
  have fl21 := hts (.fieldLink RX2 21 "BoatsHome$Offers" "first" "[I") (by first | exact List.mem_of_getElem? (i := 8) rfl | decide +kernel)
  have fl24 := hts (.fieldLink RX2 24 "BoatsHome$Offers" "last" "[I") (by first | exact List.mem_of_getElem? (i := 9) rfl | decide +kernel)
  have fl27 := hts (.fieldLink RX2 27 "BoatsHome$Offers" "size" "I") (by first | exact List.mem_of_getElem? (i := 10) rfl | decide +kernel)
  have fl31 := hts (.fieldLink RX2 31 "BoatsHome$Offers" "crewPorts" "[I") (by first | exact List.mem_of_getElem? (i := 11) rfl | decide +kernel)
  have fl34 := hts (.fieldLink RX2 34 "BoatsHome$Offers" "crewDays" "[I") (by first | exact List.mem_of_getElem? (i := 12) rfl | decide +kernel)
  have fl37 := hts (.fieldLink RX2 37 "BoatsHome$Offers" "fares" "[I") (by first | exact List.mem_of_getElem? (i := 13) rfl | decide +kernel)
  have inX2 : ∀ w ∈ u_ws RX2 TX2 9, w ∈ wsX2_init := by first | exact fun w h9 => (List.mem_cons_of_mem _ (List.mem_append_right _ h9)) | decide +kernel
  refine lv_aload_n hx hb dX2_init_0 rfl (lv_at hl 0 rfl) ?_
  refine W.objInit hx hb hown (hts (.methodLink RX2 3 objectInit) (by first | exact List.mem_of_getElem? (i := 1) rfl | decide +kernel)) (hts (.instanceMethod objectInit) (by first | exact List.mem_of_getElem? (i := 2) rfl | decide +kernel)) (hts (.code objectInit ⟨#[0xb1]⟩ 1 none) (by first | exact List.mem_of_getElem? (i := 3) rfl | decide +kernel)) rfl (by rw [hml]; exact hl.1) rfl dX2_init_1 (Nat.le_of_ble_eq_true rfl) (Nat.le_of_ble_eq_true rfl) ?_
  refine W.eq (g2 := F0 m 4 ls []) rfl ?_
  refine lv_aload_n hx hb dX2_init_4 rfl (lv_at hl 0 rfl) ?_
  refine lv_bipush (v := 7) hx hb dX2_init_5 (by decide) ?_
  refine va_newa (a0 := (7, .inl (fun _ => 0))) (atype := .int) (ty := .int) hx hb (hts (.arrayClass .int) (by first | exact List.mem_of_getElem? (i := 4) rfl | decide +kernel)) rfl hK hP hD hS hA (n := 7) (N' := 7) (newc_I 7) (by decide) (by decide) (by decide) (Nat.le_of_ble_eq_true rfl) (Nat.le_of_ble_eq_true rfl) dX2_init_7 (fun q_1 cA H hK1 hP hD hS => ?_)
  obtain rfl : cA = E.2.1 0 := k_uniq hK hK1 0 5 rfl rfl (fun C h => by cases h)
  refine W.widen (k := 1) (n := 7) (Nat.le_of_ble_eq_true rfl) (Nat.le_of_ble_eq_true rfl) ?_
  have hP : va_P E.1 vwCl [(h0, .inr (2, [.null, .null, .null, .null, .null, .int 0, .null, .null, .null])), (q_1, .inl (E.2.1 0, 7, .inl (fun _ => 0)))] H := hP
  have hD : va_D A [(h0, .inr (2, [.null, .null, .null, .null, .null, .int 0, .null, .null, .null])), (q_1, .inl (E.2.1 0, 7, .inl (fun _ => 0)))] := hD
  refine va_putF (D := E.1) (ci := 2) (v := .ref q_1) (ty := .array .int) (C := RX2) (T := TX2) (N := 9) hx hb hts inX2 tyX2 tyX2_ok nmX2 hown hK hP hD hS 0 rfl rfl 0 (by decide) fl9 (fun _ h9 => h9) rfl hin rfl (by decide +kernel) rfl rfl (Nat.le_of_ble_eq_true rfl) dX2_init_9 (fun H locs hP hD hS => ?_)
  have hP : va_P E.1 vwCl [(h0, .inr (2, [.ref q_1, .null, .null, .null, .null, .int 0, .null, .null, .null])), (q_1, .inl (E.2.1 0, 7, .inl (fun _ => 0)))] H := hP
  have hD : va_D A [(h0, .inr (2, [.ref q_1, .null, .null, .null, .null, .int 0, .null, .null, .null])), (q_1, .inl (E.2.1 0, 7, .inl (fun _ => 0)))] := hD
  refine lv_aload_n hx hb dX2_init_12 rfl (lv_at hl 0 rfl) ?_
  refine lv_bipush (v := 7) hx hb dX2_init_13 (by decide) ?_
  refine va_newa (a0 := (7, .inl (fun _ => 0))) (atype := .int) (ty := .int) hx hb (hts (.arrayClass .int) (by first | exact List.mem_of_getElem? (i := 4) rfl | decide +kernel)) rfl hK hP hD hS hA (n := 7) (N' := 7) (newc_I 7) (by decide) (by decide) (by decide) (Nat.le_of_ble_eq_true rfl) (Nat.le_of_ble_eq_true rfl) dX2_init_15 (fun q_2 cA H hK1 hP hD hS => ?_)
  obtain rfl : cA = E.2.1 0 := k_uniq hK hK1 0 5 rfl rfl (fun C h => by cases h)
  refine W.widen (k := 2) (n := 14) (Nat.le_of_ble_eq_true rfl) (Nat.le_of_ble_eq_true rfl) ?_
  have hP : va_P E.1 vwCl [(h0, .inr (2, [.ref q_1, .null, .null, .null, .null, .int 0, .null, .null, .null])), (q_1, .inl (E.2.1 0, 7, .inl (fun _ => 0))), (q_2, .inl (E.2.1 0, 7, .inl (fun _ => 0)))] H := hP
  have hD : va_D A [(h0, .inr (2, [.ref q_1, .null, .null, .null, .null, .int 0, .null, .null, .null])), (q_1, .inl (E.2.1 0, 7, .inl (fun _ => 0))), (q_2, .inl (E.2.1 0, 7, .inl (fun _ => 0)))] := hD
  refine va_putF (D := E.1) (ci := 2) (v := .ref q_2) (ty := .array .int) (C := RX2) (T := TX2) (N := 9) hx hb hts inX2 tyX2 tyX2_ok nmX2 hown hK hP hD hS 0 rfl rfl 1 (by decide) fl15 (fun _ h9 => h9) rfl hin rfl (by decide +kernel) rfl rfl (Nat.le_of_ble_eq_true rfl) dX2_init_17 (fun H locs hP hD hS => ?_)
  have hP : va_P E.1 vwCl [(h0, .inr (2, [.ref q_1, .ref q_2, .null, .null, .null, .int 0, .null, .null, .null])), (q_1, .inl (E.2.1 0, 7, .inl (fun _ => 0))), (q_2, .inl (E.2.1 0, 7, .inl (fun _ => 0)))] H := hP
  have hD : va_D A [(h0, .inr (2, [.ref q_1, .ref q_2, .null, .null, .null, .int 0, .null, .null, .null])), (q_1, .inl (E.2.1 0, 7, .inl (fun _ => 0))), (q_2, .inl (E.2.1 0, 7, .inl (fun _ => 0)))] := hD
  refine lv_aload_n hx hb dX2_init_20 rfl (lv_at hl 0 rfl) ?_
  refine lv_bipush (v := 7) hx hb dX2_init_21 (by decide) ?_
  refine va_newa (a0 := (7, .inl (fun _ => 0))) (atype := .int) (ty := .int) hx hb (hts (.arrayClass .int) (by first | exact List.mem_of_getElem? (i := 4) rfl | decide +kernel)) rfl hK hP hD hS hA (n := 7) (N' := 7) (newc_I 7) (by decide) (by decide) (by decide) (Nat.le_of_ble_eq_true rfl) (Nat.le_of_ble_eq_true rfl) dX2_init_23 (fun q_3 cA H hK1 hP hD hS => ?_)
  obtain rfl : cA = E.2.1 0 := k_uniq hK hK1 0 5 rfl rfl (fun C h => by cases h)
  refine W.widen (k := 3) (n := 21) (Nat.le_of_ble_eq_true rfl) (Nat.le_of_ble_eq_true rfl) ?_
  have hP : va_P E.1 vwCl [(h0, .inr (2, [.ref q_1, .ref q_2, .null, .null, .null, .int 0, .null, .null, .null])), (q_1, .inl (E.2.1 0, 7, .inl (fun _ => 0))), (q_2, .inl (E.2.1 0, 7, .inl (fun _ => 0))), (q_3, .inl (E.2.1 0, 7, .inl (fun _ => 0)))] H := hP
  have hD : va_D A [(h0, .inr (2, [.ref q_1, .ref q_2, .null, .null, .null, .int 0, .null, .null, .null])), (q_1, .inl (E.2.1 0, 7, .inl (fun _ => 0))), (q_2, .inl (E.2.1 0, 7, .inl (fun _ => 0))), (q_3, .inl (E.2.1 0, 7, .inl (fun _ => 0)))] := hD
  refine va_putF (D := E.1) (ci := 2) (v := .ref q_3) (ty := .array .int) (C := RX2) (T := TX2) (N := 9) hx hb hts inX2 tyX2 tyX2_ok nmX2 hown hK hP hD hS 0 rfl rfl 2 (by decide) fl18 (fun _ h9 => h9) rfl hin rfl (by decide +kernel) rfl rfl (Nat.le_of_ble_eq_true rfl) dX2_init_25 (fun H locs hP hD hS => ?_)
  have hP : va_P E.1 vwCl [(h0, .inr (2, [.ref q_1, .ref q_2, .ref q_3, .null, .null, .int 0, .null, .null, .null])), (q_1, .inl (E.2.1 0, 7, .inl (fun _ => 0))), (q_2, .inl (E.2.1 0, 7, .inl (fun _ => 0))), (q_3, .inl (E.2.1 0, 7, .inl (fun _ => 0)))] H := hP
  have hD : va_D A [(h0, .inr (2, [.ref q_1, .ref q_2, .ref q_3, .null, .null, .int 0, .null, .null, .null])), (q_1, .inl (E.2.1 0, 7, .inl (fun _ => 0))), (q_2, .inl (E.2.1 0, 7, .inl (fun _ => 0))), (q_3, .inl (E.2.1 0, 7, .inl (fun _ => 0)))] := hD
  refine lv_aload_n hx hb dX2_init_28 rfl (lv_at hl 0 rfl) ?_
  refine lv_bipush (v := 7) hx hb dX2_init_29 (by decide) ?_
  refine va_newa (a0 := (7, .inl (fun _ => 0))) (atype := .int) (ty := .int) hx hb (hts (.arrayClass .int) (by first | exact List.mem_of_getElem? (i := 4) rfl | decide +kernel)) rfl hK hP hD hS hA (n := 7) (N' := 7) (newc_I 7) (by decide) (by decide) (by decide) (Nat.le_of_ble_eq_true rfl) (Nat.le_of_ble_eq_true rfl) dX2_init_31 (fun q_4 cA H hK1 hP hD hS => ?_)
  obtain rfl : cA = E.2.1 0 := k_uniq hK hK1 0 5 rfl rfl (fun C h => by cases h)
  refine W.widen (k := 4) (n := 28) (Nat.le_of_ble_eq_true rfl) (Nat.le_of_ble_eq_true rfl) ?_
  have hP : va_P E.1 vwCl [(h0, .inr (2, [.ref q_1, .ref q_2, .ref q_3, .null, .null, .int 0, .null, .null, .null])), (q_1, .inl (E.2.1 0, 7, .inl (fun _ => 0))), (q_2, .inl (E.2.1 0, 7, .inl (fun _ => 0))), (q_3, .inl (E.2.1 0, 7, .inl (fun _ => 0))), (q_4, .inl (E.2.1 0, 7, .inl (fun _ => 0)))] H := hP
  have hD : va_D A [(h0, .inr (2, [.ref q_1, .ref q_2, .ref q_3, .null, .null, .int 0, .null, .null, .null])), (q_1, .inl (E.2.1 0, 7, .inl (fun _ => 0))), (q_2, .inl (E.2.1 0, 7, .inl (fun _ => 0))), (q_3, .inl (E.2.1 0, 7, .inl (fun _ => 0))), (q_4, .inl (E.2.1 0, 7, .inl (fun _ => 0)))] := hD
  refine va_putF (D := E.1) (ci := 2) (v := .ref q_4) (ty := .array .int) (C := RX2) (T := TX2) (N := 9) hx hb hts inX2 tyX2 tyX2_ok nmX2 hown hK hP hD hS 0 rfl rfl 3 (by decide) fl21 (fun _ h9 => h9) rfl hin rfl (by decide +kernel) rfl rfl (Nat.le_of_ble_eq_true rfl) dX2_init_33 (fun H locs hP hD hS => ?_)
  have hP : va_P E.1 vwCl [(h0, .inr (2, [.ref q_1, .ref q_2, .ref q_3, .ref q_4, .null, .int 0, .null, .null, .null])), (q_1, .inl (E.2.1 0, 7, .inl (fun _ => 0))), (q_2, .inl (E.2.1 0, 7, .inl (fun _ => 0))), (q_3, .inl (E.2.1 0, 7, .inl (fun _ => 0))), (q_4, .inl (E.2.1 0, 7, .inl (fun _ => 0)))] H := hP
  have hD : va_D A [(h0, .inr (2, [.ref q_1, .ref q_2, .ref q_3, .ref q_4, .null, .int 0, .null, .null, .null])), (q_1, .inl (E.2.1 0, 7, .inl (fun _ => 0))), (q_2, .inl (E.2.1 0, 7, .inl (fun _ => 0))), (q_3, .inl (E.2.1 0, 7, .inl (fun _ => 0))), (q_4, .inl (E.2.1 0, 7, .inl (fun _ => 0)))] := hD
  refine lv_aload_n hx hb dX2_init_36 rfl (lv_at hl 0 rfl) ?_
  refine lv_bipush (v := 7) hx hb dX2_init_37 (by decide) ?_
  refine va_newa (a0 := (7, .inl (fun _ => 0))) (atype := .int) (ty := .int) hx hb (hts (.arrayClass .int) (by first | exact List.mem_of_getElem? (i := 4) rfl | decide +kernel)) rfl hK hP hD hS hA (n := 7) (N' := 7) (newc_I 7) (by decide) (by decide) (by decide) (Nat.le_of_ble_eq_true rfl) (Nat.le_of_ble_eq_true rfl) dX2_init_39 (fun q_5 cA H hK1 hP hD hS => ?_)
  obtain rfl : cA = E.2.1 0 := k_uniq hK hK1 0 5 rfl rfl (fun C h => by cases h)
  refine W.widen (k := 5) (n := 35) (Nat.le_of_ble_eq_true rfl) (Nat.le_of_ble_eq_true rfl) ?_
  have hP : va_P E.1 vwCl [(h0, .inr (2, [.ref q_1, .ref q_2, .ref q_3, .ref q_4, .null, .int 0, .null, .null, .null])), (q_1, .inl (E.2.1 0, 7, .inl (fun _ => 0))), (q_2, .inl (E.2.1 0, 7, .inl (fun _ => 0))), (q_3, .inl (E.2.1 0, 7, .inl (fun _ => 0))), (q_4, .inl (E.2.1 0, 7, .inl (fun _ => 0))), (q_5, .inl (E.2.1 0, 7, .inl (fun _ => 0)))] H := hP
  have hD : va_D A [(h0, .inr (2, [.ref q_1, .ref q_2, .ref q_3, .ref q_4, .null, .int 0, .null, .null, .null])), (q_1, .inl (E.2.1 0, 7, .inl (fun _ => 0))), (q_2, .inl (E.2.1 0, 7, .inl (fun _ => 0))), (q_3, .inl (E.2.1 0, 7, .inl (fun _ => 0))), (q_4, .inl (E.2.1 0, 7, .inl (fun _ => 0))), (q_5, .inl (E.2.1 0, 7, .inl (fun _ => 0)))] := hD
  refine va_putF (D := E.1) (ci := 2) (v := .ref q_5) (ty := .array .int) (C := RX2) (T := TX2) (N := 9) hx hb hts inX2 tyX2 tyX2_ok nmX2 hown hK hP hD hS 0 rfl rfl 4 (by decide) fl24 (fun _ h9 => h9) rfl hin rfl (by decide +kernel) rfl rfl (Nat.le_of_ble_eq_true rfl) dX2_init_41 (fun H locs hP hD hS => ?_)
  have hP : va_P E.1 vwCl [(h0, .inr (2, [.ref q_1, .ref q_2, .ref q_3, .ref q_4, .ref q_5, .int 0, .null, .null, .null])), (q_1, .inl (E.2.1 0, 7, .inl (fun _ => 0))), (q_2, .inl (E.2.1 0, 7, .inl (fun _ => 0))), (q_3, .inl (E.2.1 0, 7, .inl (fun _ => 0))), (q_4, .inl (E.2.1 0, 7, .inl (fun _ => 0))), (q_5, .inl (E.2.1 0, 7, .inl (fun _ => 0)))] H := hP
  have hD : va_D A [(h0, .inr (2, [.ref q_1, .ref q_2, .ref q_3, .ref q_4, .ref q_5, .int 0, .null, .null, .null])), (q_1, .inl (E.2.1 0, 7, .inl (fun _ => 0))), (q_2, .inl (E.2.1 0, 7, .inl (fun _ => 0))), (q_3, .inl (E.2.1 0, 7, .inl (fun _ => 0))), (q_4, .inl (E.2.1 0, 7, .inl (fun _ => 0))), (q_5, .inl (E.2.1 0, 7, .inl (fun _ => 0)))] := hD
  refine lv_aload_n hx hb dX2_init_44 rfl (lv_at hl 0 rfl) ?_
  refine lv_iconst (v := 0) hx hb dX2_init_45 (by decide) ?_
  refine va_put (D := E.1) (ci := 2) (v := .int 0) (ty := .int) (C := RX2) (T := TX2) (N := 9) hx hb hts inX2 tyX2 tyX2_ok nmX2 hown hK hP hD hS 0 rfl rfl 5 (by decide) fl27 (fun _ h9 => h9) rfl (by decide +kernel) rfl rfl (Nat.le_of_ble_eq_true rfl) dX2_init_46 (fun H locs hP hD hS => ?_)
  have hP : va_P E.1 vwCl [(h0, .inr (2, [.ref q_1, .ref q_2, .ref q_3, .ref q_4, .ref q_5, .int 0, .null, .null, .null])), (q_1, .inl (E.2.1 0, 7, .inl (fun _ => 0))), (q_2, .inl (E.2.1 0, 7, .inl (fun _ => 0))), (q_3, .inl (E.2.1 0, 7, .inl (fun _ => 0))), (q_4, .inl (E.2.1 0, 7, .inl (fun _ => 0))), (q_5, .inl (E.2.1 0, 7, .inl (fun _ => 0)))] H := hP
  have hD : va_D A [(h0, .inr (2, [.ref q_1, .ref q_2, .ref q_3, .ref q_4, .ref q_5, .int 0, .null, .null, .null])), (q_1, .inl (E.2.1 0, 7, .inl (fun _ => 0))), (q_2, .inl (E.2.1 0, 7, .inl (fun _ => 0))), (q_3, .inl (E.2.1 0, 7, .inl (fun _ => 0))), (q_4, .inl (E.2.1 0, 7, .inl (fun _ => 0))), (q_5, .inl (E.2.1 0, 7, .inl (fun _ => 0)))] := hD
  refine lv_aload_n hx hb dX2_init_49 rfl (lv_at hl 0 rfl) ?_
  refine lv_iconst (v := 4) hx hb dX2_init_50 (by decide) ?_
  refine va_newa (a0 := (4, .inl (fun _ => 0))) (atype := .int) (ty := .int) hx hb (hts (.arrayClass .int) (by first | exact List.mem_of_getElem? (i := 4) rfl | decide +kernel)) rfl hK hP hD hS hA (n := 4) (N' := 4) (newc_I 4) (by decide) (by decide) (by decide) (Nat.le_of_ble_eq_true rfl) (Nat.le_of_ble_eq_true rfl) dX2_init_51 (fun q_6 cA H hK1 hP hD hS => ?_)
  obtain rfl : cA = E.2.1 0 := k_uniq hK hK1 0 5 rfl rfl (fun C h => by cases h)
  refine W.widen (k := 6) (n := 39) (Nat.le_of_ble_eq_true rfl) (Nat.le_of_ble_eq_true rfl) ?_
  have hP : va_P E.1 vwCl [(h0, .inr (2, [.ref q_1, .ref q_2, .ref q_3, .ref q_4, .ref q_5, .int 0, .null, .null, .null])), (q_1, .inl (E.2.1 0, 7, .inl (fun _ => 0))), (q_2, .inl (E.2.1 0, 7, .inl (fun _ => 0))), (q_3, .inl (E.2.1 0, 7, .inl (fun _ => 0))), (q_4, .inl (E.2.1 0, 7, .inl (fun _ => 0))), (q_5, .inl (E.2.1 0, 7, .inl (fun _ => 0))), (q_6, .inl (E.2.1 0, 4, .inl (fun _ => 0)))] H := hP
  have hD : va_D A [(h0, .inr (2, [.ref q_1, .ref q_2, .ref q_3, .ref q_4, .ref q_5, .int 0, .null, .null, .null])), (q_1, .inl (E.2.1 0, 7, .inl (fun _ => 0))), (q_2, .inl (E.2.1 0, 7, .inl (fun _ => 0))), (q_3, .inl (E.2.1 0, 7, .inl (fun _ => 0))), (q_4, .inl (E.2.1 0, 7, .inl (fun _ => 0))), (q_5, .inl (E.2.1 0, 7, .inl (fun _ => 0))), (q_6, .inl (E.2.1 0, 4, .inl (fun _ => 0)))] := hD
  refine lv_dup hx hb dX2_init_53 rfl ?_
  refine lv_iconst (v := 0) hx hb dX2_init_54 (by decide) ?_
  refine lv_iconst (v := (-1)) hx hb dX2_init_55 (by decide) ?_
  refine va_iast hx hb hK hP hD hS 6 0 rfl rfl (show vp_in 0 4 from by unfold vp_in; decide) dX2_init_56 (fun H locs hP hD hS => ?_)
  have hP : va_P E.1 vwCl [(h0, .inr (2, [.ref q_1, .ref q_2, .ref q_3, .ref q_4, .ref q_5, .int 0, .null, .null, .null])), (q_1, .inl (E.2.1 0, 7, .inl (fun _ => 0))), (q_2, .inl (E.2.1 0, 7, .inl (fun _ => 0))), (q_3, .inl (E.2.1 0, 7, .inl (fun _ => 0))), (q_4, .inl (E.2.1 0, 7, .inl (fun _ => 0))), (q_5, .inl (E.2.1 0, 7, .inl (fun _ => 0))), (q_6, .inl (E.2.1 0, 4, .inl (upd (fun _ => 0) (Int32.toNatClampNeg 0) (-1))))] H := hP
  have hD : va_D A [(h0, .inr (2, [.ref q_1, .ref q_2, .ref q_3, .ref q_4, .ref q_5, .int 0, .null, .null, .null])), (q_1, .inl (E.2.1 0, 7, .inl (fun _ => 0))), (q_2, .inl (E.2.1 0, 7, .inl (fun _ => 0))), (q_3, .inl (E.2.1 0, 7, .inl (fun _ => 0))), (q_4, .inl (E.2.1 0, 7, .inl (fun _ => 0))), (q_5, .inl (E.2.1 0, 7, .inl (fun _ => 0))), (q_6, .inl (E.2.1 0, 4, .inl (upd (fun _ => 0) (Int32.toNatClampNeg 0) (-1))))] := hD
  obtain ⟨f_7, ef_7⟩ : ∃ g : Nat → Int32, g = upd (fun _ => 0) (Int32.toNatClampNeg 0) (-1) := ⟨_, rfl⟩
  rw [← ef_7] at hP hD
  refine lv_dup hx hb dX2_init_57 rfl ?_
  refine lv_iconst (v := 1) hx hb dX2_init_58 (by decide) ?_
  refine lv_iconst (v := (-1)) hx hb dX2_init_59 (by decide) ?_
  refine va_iast hx hb hK hP hD hS 6 0 rfl rfl (show vp_in 1 4 from by unfold vp_in; decide) dX2_init_60 (fun H locs hP hD hS => ?_)
  have hP : va_P E.1 vwCl [(h0, .inr (2, [.ref q_1, .ref q_2, .ref q_3, .ref q_4, .ref q_5, .int 0, .null, .null, .null])), (q_1, .inl (E.2.1 0, 7, .inl (fun _ => 0))), (q_2, .inl (E.2.1 0, 7, .inl (fun _ => 0))), (q_3, .inl (E.2.1 0, 7, .inl (fun _ => 0))), (q_4, .inl (E.2.1 0, 7, .inl (fun _ => 0))), (q_5, .inl (E.2.1 0, 7, .inl (fun _ => 0))), (q_6, .inl (E.2.1 0, 4, .inl (upd f_7 (Int32.toNatClampNeg 1) (-1))))] H := hP
  have hD : va_D A [(h0, .inr (2, [.ref q_1, .ref q_2, .ref q_3, .ref q_4, .ref q_5, .int 0, .null, .null, .null])), (q_1, .inl (E.2.1 0, 7, .inl (fun _ => 0))), (q_2, .inl (E.2.1 0, 7, .inl (fun _ => 0))), (q_3, .inl (E.2.1 0, 7, .inl (fun _ => 0))), (q_4, .inl (E.2.1 0, 7, .inl (fun _ => 0))), (q_5, .inl (E.2.1 0, 7, .inl (fun _ => 0))), (q_6, .inl (E.2.1 0, 4, .inl (upd f_7 (Int32.toNatClampNeg 1) (-1))))] := hD
  obtain ⟨f_8, ef_8⟩ : ∃ g : Nat → Int32, g = upd f_7 (Int32.toNatClampNeg 1) (-1) := ⟨_, rfl⟩
  rw [← ef_8] at hP hD
  refine lv_dup hx hb dX2_init_61 rfl ?_
  refine lv_iconst (v := 2) hx hb dX2_init_62 (by decide) ?_
  refine lv_iconst (v := (-1)) hx hb dX2_init_63 (by decide) ?_
  refine va_iast hx hb hK hP hD hS 6 0 rfl rfl (show vp_in 2 4 from by unfold vp_in; decide) dX2_init_64 (fun H locs hP hD hS => ?_)
  have hP : va_P E.1 vwCl [(h0, .inr (2, [.ref q_1, .ref q_2, .ref q_3, .ref q_4, .ref q_5, .int 0, .null, .null, .null])), (q_1, .inl (E.2.1 0, 7, .inl (fun _ => 0))), (q_2, .inl (E.2.1 0, 7, .inl (fun _ => 0))), (q_3, .inl (E.2.1 0, 7, .inl (fun _ => 0))), (q_4, .inl (E.2.1 0, 7, .inl (fun _ => 0))), (q_5, .inl (E.2.1 0, 7, .inl (fun _ => 0))), (q_6, .inl (E.2.1 0, 4, .inl (upd f_8 (Int32.toNatClampNeg 2) (-1))))] H := hP
  have hD : va_D A [(h0, .inr (2, [.ref q_1, .ref q_2, .ref q_3, .ref q_4, .ref q_5, .int 0, .null, .null, .null])), (q_1, .inl (E.2.1 0, 7, .inl (fun _ => 0))), (q_2, .inl (E.2.1 0, 7, .inl (fun _ => 0))), (q_3, .inl (E.2.1 0, 7, .inl (fun _ => 0))), (q_4, .inl (E.2.1 0, 7, .inl (fun _ => 0))), (q_5, .inl (E.2.1 0, 7, .inl (fun _ => 0))), (q_6, .inl (E.2.1 0, 4, .inl (upd f_8 (Int32.toNatClampNeg 2) (-1))))] := hD
  obtain ⟨f_9, ef_9⟩ : ∃ g : Nat → Int32, g = upd f_8 (Int32.toNatClampNeg 2) (-1) := ⟨_, rfl⟩
  rw [← ef_9] at hP hD
  refine lv_dup hx hb dX2_init_65 rfl ?_
  refine lv_iconst (v := 3) hx hb dX2_init_66 (by decide) ?_
  refine lv_iconst (v := (-1)) hx hb dX2_init_67 (by decide) ?_
  refine va_iast hx hb hK hP hD hS 6 0 rfl rfl (show vp_in 3 4 from by unfold vp_in; decide) dX2_init_68 (fun H locs hP hD hS => ?_)
  have hP : va_P E.1 vwCl [(h0, .inr (2, [.ref q_1, .ref q_2, .ref q_3, .ref q_4, .ref q_5, .int 0, .null, .null, .null])), (q_1, .inl (E.2.1 0, 7, .inl (fun _ => 0))), (q_2, .inl (E.2.1 0, 7, .inl (fun _ => 0))), (q_3, .inl (E.2.1 0, 7, .inl (fun _ => 0))), (q_4, .inl (E.2.1 0, 7, .inl (fun _ => 0))), (q_5, .inl (E.2.1 0, 7, .inl (fun _ => 0))), (q_6, .inl (E.2.1 0, 4, .inl (upd f_9 (Int32.toNatClampNeg 3) (-1))))] H := hP
  have hD : va_D A [(h0, .inr (2, [.ref q_1, .ref q_2, .ref q_3, .ref q_4, .ref q_5, .int 0, .null, .null, .null])), (q_1, .inl (E.2.1 0, 7, .inl (fun _ => 0))), (q_2, .inl (E.2.1 0, 7, .inl (fun _ => 0))), (q_3, .inl (E.2.1 0, 7, .inl (fun _ => 0))), (q_4, .inl (E.2.1 0, 7, .inl (fun _ => 0))), (q_5, .inl (E.2.1 0, 7, .inl (fun _ => 0))), (q_6, .inl (E.2.1 0, 4, .inl (upd f_9 (Int32.toNatClampNeg 3) (-1))))] := hD
  obtain ⟨f_10, ef_10⟩ : ∃ g : Nat → Int32, g = upd f_9 (Int32.toNatClampNeg 3) (-1) := ⟨_, rfl⟩
  rw [← ef_10] at hP hD
  refine va_putF (D := E.1) (ci := 2) (v := .ref q_6) (ty := .array .int) (C := RX2) (T := TX2) (N := 9) hx hb hts inX2 tyX2 tyX2_ok nmX2 hown hK hP hD hS 0 rfl rfl 6 (by decide) fl31 (fun _ h9 => h9) rfl hin rfl (by decide +kernel) rfl rfl (Nat.le_of_ble_eq_true rfl) dX2_init_69 (fun H locs hP hD hS => ?_)
  have hP : va_P E.1 vwCl [(h0, .inr (2, [.ref q_1, .ref q_2, .ref q_3, .ref q_4, .ref q_5, .int 0, .ref q_6, .null, .null])), (q_1, .inl (E.2.1 0, 7, .inl (fun _ => 0))), (q_2, .inl (E.2.1 0, 7, .inl (fun _ => 0))), (q_3, .inl (E.2.1 0, 7, .inl (fun _ => 0))), (q_4, .inl (E.2.1 0, 7, .inl (fun _ => 0))), (q_5, .inl (E.2.1 0, 7, .inl (fun _ => 0))), (q_6, .inl (E.2.1 0, 4, .inl f_10))] H := hP
  have hD : va_D A [(h0, .inr (2, [.ref q_1, .ref q_2, .ref q_3, .ref q_4, .ref q_5, .int 0, .ref q_6, .null, .null])), (q_1, .inl (E.2.1 0, 7, .inl (fun _ => 0))), (q_2, .inl (E.2.1 0, 7, .inl (fun _ => 0))), (q_3, .inl (E.2.1 0, 7, .inl (fun _ => 0))), (q_4, .inl (E.2.1 0, 7, .inl (fun _ => 0))), (q_5, .inl (E.2.1 0, 7, .inl (fun _ => 0))), (q_6, .inl (E.2.1 0, 4, .inl f_10))] := hD
  refine lv_aload_n hx hb dX2_init_72 rfl (lv_at hl 0 rfl) ?_
  refine lv_iconst (v := 4) hx hb dX2_init_73 (by decide) ?_
  refine va_newa (a0 := (4, .inl (fun _ => 0))) (atype := .int) (ty := .int) hx hb (hts (.arrayClass .int) (by first | exact List.mem_of_getElem? (i := 4) rfl | decide +kernel)) rfl hK hP hD hS hA (n := 4) (N' := 4) (newc_I 4) (by decide) (by decide) (by decide) (Nat.le_of_ble_eq_true rfl) (Nat.le_of_ble_eq_true rfl) dX2_init_74 (fun q_11 cA H hK1 hP hD hS => ?_)
  obtain rfl : cA = E.2.1 0 := k_uniq hK hK1 0 5 rfl rfl (fun C h => by cases h)
  refine W.widen (k := 7) (n := 43) (Nat.le_of_ble_eq_true rfl) (Nat.le_of_ble_eq_true rfl) ?_
  have hP : va_P E.1 vwCl [(h0, .inr (2, [.ref q_1, .ref q_2, .ref q_3, .ref q_4, .ref q_5, .int 0, .ref q_6, .null, .null])), (q_1, .inl (E.2.1 0, 7, .inl (fun _ => 0))), (q_2, .inl (E.2.1 0, 7, .inl (fun _ => 0))), (q_3, .inl (E.2.1 0, 7, .inl (fun _ => 0))), (q_4, .inl (E.2.1 0, 7, .inl (fun _ => 0))), (q_5, .inl (E.2.1 0, 7, .inl (fun _ => 0))), (q_6, .inl (E.2.1 0, 4, .inl f_10)), (q_11, .inl (E.2.1 0, 4, .inl (fun _ => 0)))] H := hP
  have hD : va_D A [(h0, .inr (2, [.ref q_1, .ref q_2, .ref q_3, .ref q_4, .ref q_5, .int 0, .ref q_6, .null, .null])), (q_1, .inl (E.2.1 0, 7, .inl (fun _ => 0))), (q_2, .inl (E.2.1 0, 7, .inl (fun _ => 0))), (q_3, .inl (E.2.1 0, 7, .inl (fun _ => 0))), (q_4, .inl (E.2.1 0, 7, .inl (fun _ => 0))), (q_5, .inl (E.2.1 0, 7, .inl (fun _ => 0))), (q_6, .inl (E.2.1 0, 4, .inl f_10)), (q_11, .inl (E.2.1 0, 4, .inl (fun _ => 0)))] := hD
  refine va_putF (D := E.1) (ci := 2) (v := .ref q_11) (ty := .array .int) (C := RX2) (T := TX2) (N := 9) hx hb hts inX2 tyX2 tyX2_ok nmX2 hown hK hP hD hS 0 rfl rfl 7 (by decide) fl34 (fun _ h9 => h9) rfl hin rfl (by decide +kernel) rfl rfl (Nat.le_of_ble_eq_true rfl) dX2_init_76 (fun H locs hP hD hS => ?_)
  have hP : va_P E.1 vwCl [(h0, .inr (2, [.ref q_1, .ref q_2, .ref q_3, .ref q_4, .ref q_5, .int 0, .ref q_6, .ref q_11, .null])), (q_1, .inl (E.2.1 0, 7, .inl (fun _ => 0))), (q_2, .inl (E.2.1 0, 7, .inl (fun _ => 0))), (q_3, .inl (E.2.1 0, 7, .inl (fun _ => 0))), (q_4, .inl (E.2.1 0, 7, .inl (fun _ => 0))), (q_5, .inl (E.2.1 0, 7, .inl (fun _ => 0))), (q_6, .inl (E.2.1 0, 4, .inl f_10)), (q_11, .inl (E.2.1 0, 4, .inl (fun _ => 0)))] H := hP
  have hD : va_D A [(h0, .inr (2, [.ref q_1, .ref q_2, .ref q_3, .ref q_4, .ref q_5, .int 0, .ref q_6, .ref q_11, .null])), (q_1, .inl (E.2.1 0, 7, .inl (fun _ => 0))), (q_2, .inl (E.2.1 0, 7, .inl (fun _ => 0))), (q_3, .inl (E.2.1 0, 7, .inl (fun _ => 0))), (q_4, .inl (E.2.1 0, 7, .inl (fun _ => 0))), (q_5, .inl (E.2.1 0, 7, .inl (fun _ => 0))), (q_6, .inl (E.2.1 0, 4, .inl f_10)), (q_11, .inl (E.2.1 0, 4, .inl (fun _ => 0)))] := hD
  refine lv_aload_n hx hb dX2_init_79 rfl (lv_at hl 0 rfl) ?_
  refine lv_bipush (v := 100) hx hb dX2_init_80 (by decide) ?_
  refine va_newa (a0 := (100, .inl (fun _ => 0))) (atype := .int) (ty := .int) hx hb (hts (.arrayClass .int) (by first | exact List.mem_of_getElem? (i := 4) rfl | decide +kernel)) rfl hK hP hD hS hA (n := 100) (N' := 100) (newc_I 100) (by decide) (by decide) (by decide) (Nat.le_of_ble_eq_true rfl) (Nat.le_of_ble_eq_true rfl) dX2_init_82 (fun q_12 cA H hK1 hP hD hS => ?_)
  obtain rfl : cA = E.2.1 0 := k_uniq hK hK1 0 5 rfl rfl (fun C h => by cases h)
  refine W.widen (k := 8) (n := 143) (Nat.le_of_ble_eq_true rfl) (Nat.le_of_ble_eq_true rfl) ?_
  have hP : va_P E.1 vwCl [(h0, .inr (2, [.ref q_1, .ref q_2, .ref q_3, .ref q_4, .ref q_5, .int 0, .ref q_6, .ref q_11, .null])), (q_1, .inl (E.2.1 0, 7, .inl (fun _ => 0))), (q_2, .inl (E.2.1 0, 7, .inl (fun _ => 0))), (q_3, .inl (E.2.1 0, 7, .inl (fun _ => 0))), (q_4, .inl (E.2.1 0, 7, .inl (fun _ => 0))), (q_5, .inl (E.2.1 0, 7, .inl (fun _ => 0))), (q_6, .inl (E.2.1 0, 4, .inl f_10)), (q_11, .inl (E.2.1 0, 4, .inl (fun _ => 0))), (q_12, .inl (E.2.1 0, 100, .inl (fun _ => 0)))] H := hP
  have hD : va_D A [(h0, .inr (2, [.ref q_1, .ref q_2, .ref q_3, .ref q_4, .ref q_5, .int 0, .ref q_6, .ref q_11, .null])), (q_1, .inl (E.2.1 0, 7, .inl (fun _ => 0))), (q_2, .inl (E.2.1 0, 7, .inl (fun _ => 0))), (q_3, .inl (E.2.1 0, 7, .inl (fun _ => 0))), (q_4, .inl (E.2.1 0, 7, .inl (fun _ => 0))), (q_5, .inl (E.2.1 0, 7, .inl (fun _ => 0))), (q_6, .inl (E.2.1 0, 4, .inl f_10)), (q_11, .inl (E.2.1 0, 4, .inl (fun _ => 0))), (q_12, .inl (E.2.1 0, 100, .inl (fun _ => 0)))] := hD
  refine va_putF (D := E.1) (ci := 2) (v := .ref q_12) (ty := .array .int) (C := RX2) (T := TX2) (N := 9) hx hb hts inX2 tyX2 tyX2_ok nmX2 hown hK hP hD hS 0 rfl rfl 8 (by decide) fl37 (fun _ h9 => h9) rfl hin rfl (by decide +kernel) rfl rfl (Nat.le_of_ble_eq_true rfl) dX2_init_84 (fun H locs hP hD hS => ?_)
  have hP : va_P E.1 vwCl [(h0, .inr (2, [.ref q_1, .ref q_2, .ref q_3, .ref q_4, .ref q_5, .int 0, .ref q_6, .ref q_11, .ref q_12])), (q_1, .inl (E.2.1 0, 7, .inl (fun _ => 0))), (q_2, .inl (E.2.1 0, 7, .inl (fun _ => 0))), (q_3, .inl (E.2.1 0, 7, .inl (fun _ => 0))), (q_4, .inl (E.2.1 0, 7, .inl (fun _ => 0))), (q_5, .inl (E.2.1 0, 7, .inl (fun _ => 0))), (q_6, .inl (E.2.1 0, 4, .inl f_10)), (q_11, .inl (E.2.1 0, 4, .inl (fun _ => 0))), (q_12, .inl (E.2.1 0, 100, .inl (fun _ => 0)))] H := hP
  have hD : va_D A [(h0, .inr (2, [.ref q_1, .ref q_2, .ref q_3, .ref q_4, .ref q_5, .int 0, .ref q_6, .ref q_11, .ref q_12])), (q_1, .inl (E.2.1 0, 7, .inl (fun _ => 0))), (q_2, .inl (E.2.1 0, 7, .inl (fun _ => 0))), (q_3, .inl (E.2.1 0, 7, .inl (fun _ => 0))), (q_4, .inl (E.2.1 0, 7, .inl (fun _ => 0))), (q_5, .inl (E.2.1 0, 7, .inl (fun _ => 0))), (q_6, .inl (E.2.1 0, 4, .inl f_10)), (q_11, .inl (E.2.1 0, 4, .inl (fun _ => 0))), (q_12, .inl (E.2.1 0, 100, .inl (fun _ => 0)))] := hD
  refine lv_aload_n hx hb dX2_init_87 rfl (lv_at hl 0 rfl) ?_
  refine va_get (D := E.1) (ci := 2) (v := .ref q_12) (C := RX2) (T := TX2) (N := 9) hx hb hts inX2 hown hK hP 0 rfl rfl 8 (by decide) fl37 (fun _ h9 => h9) rfl dX2_init_88 ?_
  refine lv_iconst (v := (-1)) hx hb dX2_init_91 (by decide) ?_
  have hPc := hP.sub (ws' := [(q_12, .inl (E.2.1 0, 100, .inl (fun _ => 0)))]) [8] rfl
  have hDc := hD.sub (ws' := [(q_12, .inl (E.2.1 0, 100, .inl (fun _ => 0)))]) [8] (by decide) rfl
  have hFc := va_free (wc := [(q_12, .inl (E.2.1 0, 100, .inl (fun _ => 0)))]) hD hS hA [8] rfl
  refine va_callv (va_runS (As := [.ref q_12, .int (-1)]) (rest := []) ⟨hx, hb, hml, hown, hts⟩ (c_J7_fill_53178 l E q_12 100 (fun _ => 0) (-1) H.size (by decide)) (va_cwS 2 hts gX2_init_J7_fill_53178 rfl rfl rfl hdS_J7_fill_53178 ⟨Nat.le_of_ble_eq_true rfl, Nat.le_of_ble_eq_true rfl⟩) ⟨pcW_blind, (pcW_pre hPc hkn hDc hst hS hFc)⟩ rfl rfl hl.1 rfl (lv_room (Nat.le_of_ble_eq_true rfl)) dX2_init_92 ⟨Nat.le_of_ble_eq_true rfl, Nat.le_of_ble_eq_true rfl⟩) hS (fun q _ h => hFc q h) hFc (fun u t H1 locs ht hvm hw_14 hB hz1 hk1 hS => ?_)
  obtain ⟨u_15, rfl⟩ : ∃ z, z = u := ⟨_, rfl⟩
  obtain ⟨hP1, hD1⟩ := hB
  rw [ht] at hP1
  try dsimp only at hw_14
  obtain ⟨hP, hD⟩ := va_join (wr := [(h0, .inr (2, [.ref q_1, .ref q_2, .ref q_3, .ref q_4, .ref q_5, .int 0, .ref q_6, .ref q_11, .ref q_12])), (q_1, .inl (E.2.1 0, 7, .inl (fun _ => 0))), (q_2, .inl (E.2.1 0, 7, .inl (fun _ => 0))), (q_3, .inl (E.2.1 0, 7, .inl (fun _ => 0))), (q_4, .inl (E.2.1 0, 7, .inl (fun _ => 0))), (q_5, .inl (E.2.1 0, 7, .inl (fun _ => 0))), (q_6, .inl (E.2.1 0, 4, .inl f_10)), (q_11, .inl (E.2.1 0, 4, .inl (fun _ => 0)))]) (w1 := [(q_12, .inl (E.2.1 0, 100, .inl u_15))]) hP hD [8] [0, 1, 2, 3, 4, 5, 6, 7] rfl rfl (by decide) (by decide) hk1 hFc hP1 hD1
  generalize H1 = H at hP hS ⊢
  have hP : va_P E.1 vwCl [(h0, .inr (2, [.ref q_1, .ref q_2, .ref q_3, .ref q_4, .ref q_5, .int 0, .ref q_6, .ref q_11, .ref q_12])), (q_1, .inl (E.2.1 0, 7, .inl (fun _ => 0))), (q_2, .inl (E.2.1 0, 7, .inl (fun _ => 0))), (q_3, .inl (E.2.1 0, 7, .inl (fun _ => 0))), (q_4, .inl (E.2.1 0, 7, .inl (fun _ => 0))), (q_5, .inl (E.2.1 0, 7, .inl (fun _ => 0))), (q_6, .inl (E.2.1 0, 4, .inl f_10)), (q_11, .inl (E.2.1 0, 4, .inl (fun _ => 0))), (q_12, .inl (E.2.1 0, 100, .inl u_15))] H := hP
  have hD : va_D A [(h0, .inr (2, [.ref q_1, .ref q_2, .ref q_3, .ref q_4, .ref q_5, .int 0, .ref q_6, .ref q_11, .ref q_12])), (q_1, .inl (E.2.1 0, 7, .inl (fun _ => 0))), (q_2, .inl (E.2.1 0, 7, .inl (fun _ => 0))), (q_3, .inl (E.2.1 0, 7, .inl (fun _ => 0))), (q_4, .inl (E.2.1 0, 7, .inl (fun _ => 0))), (q_5, .inl (E.2.1 0, 7, .inl (fun _ => 0))), (q_6, .inl (E.2.1 0, 4, .inl f_10)), (q_11, .inl (E.2.1 0, 4, .inl (fun _ => 0))), (q_12, .inl (E.2.1 0, 100, .inl u_15))] := hD
  refine lv_iconst (v := 0) hx hb dX2_init_95 (by decide) ?_
  refine lv_istore_n (lv' := [(1, .int 0), (0, .ref h0)]) hx hb dX2_init_96 rfl hl (by decide) rfl (fun ls hl => ?_)
  have hPl := hP.sub (ws' := [(h0, .inr (2, [.ref q_1, .ref q_2, .ref q_3, .ref q_4, .ref q_5, .int 0, .ref q_6, .ref q_11, .ref q_12])), (q_1, .inl (E.2.1 0, 7, .inl (fun _ => 0))), (q_2, .inl (E.2.1 0, 7, .inl (fun _ => 0))), (q_3, .inl (E.2.1 0, 7, .inl (fun _ => 0))), (q_4, .inl (E.2.1 0, 7, .inl (fun _ => 0))), (q_5, .inl (E.2.1 0, 7, .inl (fun _ => 0))), (q_6, .inl (E.2.1 0, 4, .inl f_10)), (q_11, .inl (E.2.1 0, 4, .inl (fun _ => 0))), (q_12, .inl (E.2.1 0, 100, .inl u_15))]) [0, 1, 2, 3, 4, 5, 6, 7, 8] rfl
  have hDl := hD.sub (ws' := [(h0, .inr (2, [.ref q_1, .ref q_2, .ref q_3, .ref q_4, .ref q_5, .int 0, .ref q_6, .ref q_11, .ref q_12])), (q_1, .inl (E.2.1 0, 7, .inl (fun _ => 0))), (q_2, .inl (E.2.1 0, 7, .inl (fun _ => 0))), (q_3, .inl (E.2.1 0, 7, .inl (fun _ => 0))), (q_4, .inl (E.2.1 0, 7, .inl (fun _ => 0))), (q_5, .inl (E.2.1 0, 7, .inl (fun _ => 0))), (q_6, .inl (E.2.1 0, 4, .inl f_10)), (q_11, .inl (E.2.1 0, 4, .inl (fun _ => 0))), (q_12, .inl (E.2.1 0, 100, .inl u_15))]) [0, 1, 2, 3, 4, 5, 6, 7, 8] (by decide) rfl
  refine lp_offers E h0 q_1 q_2 q_3 q_4 q_5 q_6 q_11 q_12 f_10 hx hb hml hown hts hkn hst hA  (fun f9 H locs ls hf hP hD hS hl => ?_) 11 0 u_15 _ _ _ (by omega) (by omega) (fun k hk => by rw [hw_14 k hk, if_neg (by omega)]) hPl hDl hS (lv_sub hl [1, 0] rfl)
  have hP : va_P E.1 vwCl [(h0, .inr (2, [.ref q_1, .ref q_2, .ref q_3, .ref q_4, .ref q_5, .int 0, .ref q_6, .ref q_11, .ref q_12])), (q_1, .inl (E.2.1 0, 7, .inl (fun _ => 0))), (q_2, .inl (E.2.1 0, 7, .inl (fun _ => 0))), (q_3, .inl (E.2.1 0, 7, .inl (fun _ => 0))), (q_4, .inl (E.2.1 0, 7, .inl (fun _ => 0))), (q_5, .inl (E.2.1 0, 7, .inl (fun _ => 0))), (q_6, .inl (E.2.1 0, 4, .inl f_10)), (q_11, .inl (E.2.1 0, 4, .inl (fun _ => 0))), (q_12, .inl (E.2.1 0, 100, .inl f9))] H := hP
  have hD : va_D A [(h0, .inr (2, [.ref q_1, .ref q_2, .ref q_3, .ref q_4, .ref q_5, .int 0, .ref q_6, .ref q_11, .ref q_12])), (q_1, .inl (E.2.1 0, 7, .inl (fun _ => 0))), (q_2, .inl (E.2.1 0, 7, .inl (fun _ => 0))), (q_3, .inl (E.2.1 0, 7, .inl (fun _ => 0))), (q_4, .inl (E.2.1 0, 7, .inl (fun _ => 0))), (q_5, .inl (E.2.1 0, 7, .inl (fun _ => 0))), (q_6, .inl (E.2.1 0, 4, .inl f_10)), (q_11, .inl (E.2.1 0, 4, .inl (fun _ => 0))), (q_12, .inl (E.2.1 0, 100, .inl f9))] := hD
  have hP9 := hP.sub (ws' := [(h0, .inr (2, [.ref q_1, .ref q_2, .ref q_3, .ref q_4, .ref q_5, .int 0, .ref q_6, .ref q_11, .ref q_12])), (q_1, .inl (E.2.1 0, 7, .inl (fun _ => 0))), (q_2, .inl (E.2.1 0, 7, .inl (fun _ => 0))), (q_3, .inl (E.2.1 0, 7, .inl (fun _ => 0))), (q_4, .inl (E.2.1 0, 7, .inl (fun _ => 0))), (q_5, .inl (E.2.1 0, 7, .inl (fun _ => 0))), (q_6, .inl (E.2.1 0, 4, .inl f_10)), (q_11, .inl (E.2.1 0, 4, .inl (fun _ => 0))), (q_12, .inl (E.2.1 0, 100, .inl f9))]) [0, 1, 2, 3, 4, 5, 6, 7, 8] rfl
  have hD9 := hD.sub (ws' := [(h0, .inr (2, [.ref q_1, .ref q_2, .ref q_3, .ref q_4, .ref q_5, .int 0, .ref q_6, .ref q_11, .ref q_12])), (q_1, .inl (E.2.1 0, 7, .inl (fun _ => 0))), (q_2, .inl (E.2.1 0, 7, .inl (fun _ => 0))), (q_3, .inl (E.2.1 0, 7, .inl (fun _ => 0))), (q_4, .inl (E.2.1 0, 7, .inl (fun _ => 0))), (q_5, .inl (E.2.1 0, 7, .inl (fun _ => 0))), (q_6, .inl (E.2.1 0, 4, .inl f_10)), (q_11, .inl (E.2.1 0, 4, .inl (fun _ => 0))), (q_12, .inl (E.2.1 0, 100, .inl f9))]) [0, 1, 2, 3, 4, 5, 6, 7, 8] (by decide) rfl
  exact W.vret hx hb hr (fun t ht hW => ⟨⟨(), rfl, trivial, q_1, q_2, q_3, q_4, q_5, q_6, q_11, q_12, f_10, f9, (fun k hk => by rw [ef_10, ef_9, ef_8, ef_7]; rcases (show k = 0 ∨ k = 1 ∨ k = 2 ∨ k = 3 by omega) with rfl | rfl | rfl | rfl <;> decide +kernel), hf, by rw [ht]; exact hP9, hD9⟩, hS.F ht⟩) hS.2.2 dX2_init_121
set_option maxHeartbeats 4000000 in
set_option maxRecDepth 100000 in
theorem c_X3_init (l : Launch) (E : vE) (h0 : Nat) (of : Nat) (sz : Nat) : Met l yX3_init wsX3_init ({ frames := 1, cells := 4, slots := 2816, locals := 12 }) (pcW E [.ref h0, .ref of] sz [(h0, .inr (3, [.null, .null, .null, .null, .null]))]) (va_Qv (fun (_ : Unit) => True) (fun (_ : Unit) (t : State) => ∃ (q1 : Nat), ∃ (q2 : Nat), ∃ (q3 : Nat), ∃ (q4 : Nat), wB E (va_A [(h0, .inr (3, [.null, .null, .null, .null, .null]))] sz) [(h0, .inr (3, [.ref of, .ref q1, .ref q2, .ref q3, .ref q4])), (q1, .inl (E.2.1 0, 512, .inl (fun _ => 0))), (q2, .inl (E.2.1 0, 512, .inl (fun _ => 0))), (q3, .inl (E.2.1 0, 896, .inl (fun _ => 0))), (q4, .inl (E.2.1 0, 896, .inl (fun _ => 0)))] t) (va_A [(h0, .inr (3, [.null, .null, .null, .null, .null]))] sz)) 4 2816 (va_A [(h0, .inr (3, [.null, .null, .null, .null, .null]))] sz) := by
  refine Met.ofW (cc := cX3_init) (maxL := 2) (ret := none) (by decide) rfl ?_
  intro p e s m args below meth c s₁ B hml hv
  obtain ⟨rfl, hsz, hP, hkn, hD0, hst⟩ := hv
  have hx := B.exec
  have hb := B.bytes
  have hr := B.returns
  have hts := atoms_spec (ws := wsX3_init) B.pre
  have hown : s.vm.findClass RX3 = some m.cls := findClass_of_methodNamed B.named
  have hlocks := B.notSynchronized
  have hin : meth.name = "<init>" := (name_of_methodNamed B.named B.method).1
  subst hsz
  have hD := hD0.self (sz := s.heap.size)
  have hK := hkn.1
  have hAO := hkn.2.2.1
  generalize hAe : va_A [(h0, .inr (3, [.null, .null, .null, .null, .null]))] s.heap.size = A at hD hst ⊢
  have hA : ∀ q : Nat, s.heap.size ≤ q → A q := fun q h => by rw [← hAe]; exact Or.inr h
  have hS : va_S A s.heap s.heap [] := va_S.rf
  have hP : va_P E.1 vwCl [(h0, .inr (3, [.null, .null, .null, .null, .null]))] s.heap := hP
  have hl := lv_entry ([.ref h0, .ref of]) (n := 2) (Nat.le_of_ble_eq_true rfl)
  rw [lg_entry_eq]
  generalize (lg_sl ([.ref h0, .ref of]) ++ List.replicate (2 - (lg_sl ([.ref h0, .ref of])).length) Slot.unset).toArray = ls at hl ⊢
  have hl : lv_has ls 2 [(0, .ref h0), (1, .ref of)] := hl
  have fl9 := hts (.fieldLink RX3 9 "BoatsHome$Orders" "costs" "[I") (by first | exact List.mem_of_getElem? (i := 5) rfl | decide +kernel)
  have fl15 := hts (.fieldLink RX3 15 "BoatsHome$Orders" "orders" "[I") (by first | exact List.mem_of_getElem? (i := 6) rfl | decide +kernel)
  have fl18 := hts (.fieldLink RX3 18 "BoatsHome$Orders" "seenDays" "[I") (by first | exact List.mem_of_getElem? (i := 7) rfl | decide +kernel)
  have fl21 := hts (.fieldLink RX3 21 "BoatsHome$Orders" "seenCosts" "[I") (by first | exact List.mem_of_getElem? (i := 8) rfl | decide +kernel)
  have fl24 := hts (.fieldLink RX3 24 "BoatsHome$Orders" "offers" "LBoatsHome$Offers;") (by first | exact List.mem_of_getElem? (i := 9) rfl | decide +kernel)
  have inX3 : ∀ w ∈ u_ws RX3 TX3 5, w ∈ wsX3_init := by first | exact fun w h9 => (List.mem_cons_of_mem _ (List.mem_append_right _ h9)) | decide +kernel
  refine lv_aload_n hx hb dX3_init_0 rfl (lv_at hl 0 rfl) ?_
  refine W.objInit hx hb hown (hts (.methodLink RX3 3 objectInit) (by first | exact List.mem_of_getElem? (i := 1) rfl | decide +kernel)) (hts (.instanceMethod objectInit) (by first | exact List.mem_of_getElem? (i := 2) rfl | decide +kernel)) (hts (.code objectInit ⟨#[0xb1]⟩ 1 none) (by first | exact List.mem_of_getElem? (i := 3) rfl | decide +kernel)) rfl (by rw [hml]; exact hl.1) rfl dX3_init_1 (Nat.le_of_ble_eq_true rfl) (Nat.le_of_ble_eq_true rfl) ?_
  refine W.eq (g2 := F0 m 4 ls []) rfl ?_
  refine lv_aload_n hx hb dX3_init_4 rfl (lv_at hl 0 rfl) ?_
  refine lv_sipush (v := 512) hx hb dX3_init_5 (by decide) ?_
  refine va_newa (a0 := (512, .inl (fun _ => 0))) (atype := .int) (ty := .int) hx hb (hts (.arrayClass .int) (by first | exact List.mem_of_getElem? (i := 4) rfl | decide +kernel)) rfl hK hP hD hS hA (n := 512) (N' := 512) (newc_I 512) (by decide) (by decide) (by decide) (Nat.le_of_ble_eq_true rfl) (Nat.le_of_ble_eq_true rfl) dX3_init_8 (fun q_1 cA H hK1 hP hD hS => ?_)
  obtain rfl : cA = E.2.1 0 := k_uniq hK hK1 0 5 rfl rfl (fun C h => by cases h)
  refine W.widen (k := 1) (n := 512) (Nat.le_of_ble_eq_true rfl) (Nat.le_of_ble_eq_true rfl) ?_
  have hP : va_P E.1 vwCl [(h0, .inr (3, [.null, .null, .null, .null, .null])), (q_1, .inl (E.2.1 0, 512, .inl (fun _ => 0)))] H := hP
  have hD : va_D A [(h0, .inr (3, [.null, .null, .null, .null, .null])), (q_1, .inl (E.2.1 0, 512, .inl (fun _ => 0)))] := hD
  refine va_putF (D := E.1) (ci := 3) (v := .ref q_1) (ty := .array .int) (C := RX3) (T := TX3) (N := 5) hx hb hts inX3 tyX3 tyX3_ok nmX3 hown hK hP hD hS 0 rfl rfl 1 (by decide) fl9 (fun _ h9 => h9) rfl hin rfl (by decide +kernel) rfl rfl (Nat.le_of_ble_eq_true rfl) dX3_init_10 (fun H locs hP hD hS => ?_)
  have hP : va_P E.1 vwCl [(h0, .inr (3, [.null, .ref q_1, .null, .null, .null])), (q_1, .inl (E.2.1 0, 512, .inl (fun _ => 0)))] H := hP
  have hD : va_D A [(h0, .inr (3, [.null, .ref q_1, .null, .null, .null])), (q_1, .inl (E.2.1 0, 512, .inl (fun _ => 0)))] := hD
  refine lv_aload_n hx hb dX3_init_13 rfl (lv_at hl 0 rfl) ?_
  refine lv_sipush (v := 512) hx hb dX3_init_14 (by decide) ?_
  refine va_newa (a0 := (512, .inl (fun _ => 0))) (atype := .int) (ty := .int) hx hb (hts (.arrayClass .int) (by first | exact List.mem_of_getElem? (i := 4) rfl | decide +kernel)) rfl hK hP hD hS hA (n := 512) (N' := 512) (newc_I 512) (by decide) (by decide) (by decide) (Nat.le_of_ble_eq_true rfl) (Nat.le_of_ble_eq_true rfl) dX3_init_17 (fun q_2 cA H hK1 hP hD hS => ?_)
  obtain rfl : cA = E.2.1 0 := k_uniq hK hK1 0 5 rfl rfl (fun C h => by cases h)
  refine W.widen (k := 2) (n := 1024) (Nat.le_of_ble_eq_true rfl) (Nat.le_of_ble_eq_true rfl) ?_
  have hP : va_P E.1 vwCl [(h0, .inr (3, [.null, .ref q_1, .null, .null, .null])), (q_1, .inl (E.2.1 0, 512, .inl (fun _ => 0))), (q_2, .inl (E.2.1 0, 512, .inl (fun _ => 0)))] H := hP
  have hD : va_D A [(h0, .inr (3, [.null, .ref q_1, .null, .null, .null])), (q_1, .inl (E.2.1 0, 512, .inl (fun _ => 0))), (q_2, .inl (E.2.1 0, 512, .inl (fun _ => 0)))] := hD
  refine va_putF (D := E.1) (ci := 3) (v := .ref q_2) (ty := .array .int) (C := RX3) (T := TX3) (N := 5) hx hb hts inX3 tyX3 tyX3_ok nmX3 hown hK hP hD hS 0 rfl rfl 2 (by decide) fl15 (fun _ h9 => h9) rfl hin rfl (by decide +kernel) rfl rfl (Nat.le_of_ble_eq_true rfl) dX3_init_19 (fun H locs hP hD hS => ?_)
  have hP : va_P E.1 vwCl [(h0, .inr (3, [.null, .ref q_1, .ref q_2, .null, .null])), (q_1, .inl (E.2.1 0, 512, .inl (fun _ => 0))), (q_2, .inl (E.2.1 0, 512, .inl (fun _ => 0)))] H := hP
  have hD : va_D A [(h0, .inr (3, [.null, .ref q_1, .ref q_2, .null, .null])), (q_1, .inl (E.2.1 0, 512, .inl (fun _ => 0))), (q_2, .inl (E.2.1 0, 512, .inl (fun _ => 0)))] := hD
  refine lv_aload_n hx hb dX3_init_22 rfl (lv_at hl 0 rfl) ?_
  refine lv_sipush (v := 896) hx hb dX3_init_23 (by decide) ?_
  refine va_newa (a0 := (896, .inl (fun _ => 0))) (atype := .int) (ty := .int) hx hb (hts (.arrayClass .int) (by first | exact List.mem_of_getElem? (i := 4) rfl | decide +kernel)) rfl hK hP hD hS hA (n := 896) (N' := 896) (newc_I 896) (by decide) (by decide) (by decide) (Nat.le_of_ble_eq_true rfl) (Nat.le_of_ble_eq_true rfl) dX3_init_26 (fun q_3 cA H hK1 hP hD hS => ?_)
  obtain rfl : cA = E.2.1 0 := k_uniq hK hK1 0 5 rfl rfl (fun C h => by cases h)
  refine W.widen (k := 3) (n := 1920) (Nat.le_of_ble_eq_true rfl) (Nat.le_of_ble_eq_true rfl) ?_
  have hP : va_P E.1 vwCl [(h0, .inr (3, [.null, .ref q_1, .ref q_2, .null, .null])), (q_1, .inl (E.2.1 0, 512, .inl (fun _ => 0))), (q_2, .inl (E.2.1 0, 512, .inl (fun _ => 0))), (q_3, .inl (E.2.1 0, 896, .inl (fun _ => 0)))] H := hP
  have hD : va_D A [(h0, .inr (3, [.null, .ref q_1, .ref q_2, .null, .null])), (q_1, .inl (E.2.1 0, 512, .inl (fun _ => 0))), (q_2, .inl (E.2.1 0, 512, .inl (fun _ => 0))), (q_3, .inl (E.2.1 0, 896, .inl (fun _ => 0)))] := hD
  refine va_putF (D := E.1) (ci := 3) (v := .ref q_3) (ty := .array .int) (C := RX3) (T := TX3) (N := 5) hx hb hts inX3 tyX3 tyX3_ok nmX3 hown hK hP hD hS 0 rfl rfl 3 (by decide) fl18 (fun _ h9 => h9) rfl hin rfl (by decide +kernel) rfl rfl (Nat.le_of_ble_eq_true rfl) dX3_init_28 (fun H locs hP hD hS => ?_)
  have hP : va_P E.1 vwCl [(h0, .inr (3, [.null, .ref q_1, .ref q_2, .ref q_3, .null])), (q_1, .inl (E.2.1 0, 512, .inl (fun _ => 0))), (q_2, .inl (E.2.1 0, 512, .inl (fun _ => 0))), (q_3, .inl (E.2.1 0, 896, .inl (fun _ => 0)))] H := hP
  have hD : va_D A [(h0, .inr (3, [.null, .ref q_1, .ref q_2, .ref q_3, .null])), (q_1, .inl (E.2.1 0, 512, .inl (fun _ => 0))), (q_2, .inl (E.2.1 0, 512, .inl (fun _ => 0))), (q_3, .inl (E.2.1 0, 896, .inl (fun _ => 0)))] := hD
  refine lv_aload_n hx hb dX3_init_31 rfl (lv_at hl 0 rfl) ?_
  refine lv_sipush (v := 896) hx hb dX3_init_32 (by decide) ?_
  refine va_newa (a0 := (896, .inl (fun _ => 0))) (atype := .int) (ty := .int) hx hb (hts (.arrayClass .int) (by first | exact List.mem_of_getElem? (i := 4) rfl | decide +kernel)) rfl hK hP hD hS hA (n := 896) (N' := 896) (newc_I 896) (by decide) (by decide) (by decide) (Nat.le_of_ble_eq_true rfl) (Nat.le_of_ble_eq_true rfl) dX3_init_35 (fun q_4 cA H hK1 hP hD hS => ?_)
  obtain rfl : cA = E.2.1 0 := k_uniq hK hK1 0 5 rfl rfl (fun C h => by cases h)
  refine W.widen (k := 4) (n := 2816) (Nat.le_of_ble_eq_true rfl) (Nat.le_of_ble_eq_true rfl) ?_
  have hP : va_P E.1 vwCl [(h0, .inr (3, [.null, .ref q_1, .ref q_2, .ref q_3, .null])), (q_1, .inl (E.2.1 0, 512, .inl (fun _ => 0))), (q_2, .inl (E.2.1 0, 512, .inl (fun _ => 0))), (q_3, .inl (E.2.1 0, 896, .inl (fun _ => 0))), (q_4, .inl (E.2.1 0, 896, .inl (fun _ => 0)))] H := hP
  have hD : va_D A [(h0, .inr (3, [.null, .ref q_1, .ref q_2, .ref q_3, .null])), (q_1, .inl (E.2.1 0, 512, .inl (fun _ => 0))), (q_2, .inl (E.2.1 0, 512, .inl (fun _ => 0))), (q_3, .inl (E.2.1 0, 896, .inl (fun _ => 0))), (q_4, .inl (E.2.1 0, 896, .inl (fun _ => 0)))] := hD
  refine va_putF (D := E.1) (ci := 3) (v := .ref q_4) (ty := .array .int) (C := RX3) (T := TX3) (N := 5) hx hb hts inX3 tyX3 tyX3_ok nmX3 hown hK hP hD hS 0 rfl rfl 4 (by decide) fl21 (fun _ h9 => h9) rfl hin rfl (by decide +kernel) rfl rfl (Nat.le_of_ble_eq_true rfl) dX3_init_37 (fun H locs hP hD hS => ?_)
  have hP : va_P E.1 vwCl [(h0, .inr (3, [.null, .ref q_1, .ref q_2, .ref q_3, .ref q_4])), (q_1, .inl (E.2.1 0, 512, .inl (fun _ => 0))), (q_2, .inl (E.2.1 0, 512, .inl (fun _ => 0))), (q_3, .inl (E.2.1 0, 896, .inl (fun _ => 0))), (q_4, .inl (E.2.1 0, 896, .inl (fun _ => 0)))] H := hP
  have hD : va_D A [(h0, .inr (3, [.null, .ref q_1, .ref q_2, .ref q_3, .ref q_4])), (q_1, .inl (E.2.1 0, 512, .inl (fun _ => 0))), (q_2, .inl (E.2.1 0, 512, .inl (fun _ => 0))), (q_3, .inl (E.2.1 0, 896, .inl (fun _ => 0))), (q_4, .inl (E.2.1 0, 896, .inl (fun _ => 0)))] := hD
  refine lv_aload_n hx hb dX3_init_40 rfl (lv_at hl 0 rfl) ?_
  refine lv_aload_n hx hb dX3_init_41 rfl (lv_at hl 1 rfl) ?_
  refine va_putF (D := E.1) (ci := 3) (v := .ref of) (ty := .object "BoatsHome$Offers") (C := RX3) (T := TX3) (N := 5) hx hb hts inX3 tyX3 tyX3_ok nmX3 hown hK hP hD hS 0 rfl rfl 0 (by decide) fl24 (fun _ h9 => h9) rfl hin rfl (by decide +kernel) rfl rfl (Nat.le_of_ble_eq_true rfl) dX3_init_42 (fun H locs hP hD hS => ?_)
  have hP : va_P E.1 vwCl [(h0, .inr (3, [.ref of, .ref q_1, .ref q_2, .ref q_3, .ref q_4])), (q_1, .inl (E.2.1 0, 512, .inl (fun _ => 0))), (q_2, .inl (E.2.1 0, 512, .inl (fun _ => 0))), (q_3, .inl (E.2.1 0, 896, .inl (fun _ => 0))), (q_4, .inl (E.2.1 0, 896, .inl (fun _ => 0)))] H := hP
  have hD : va_D A [(h0, .inr (3, [.ref of, .ref q_1, .ref q_2, .ref q_3, .ref q_4])), (q_1, .inl (E.2.1 0, 512, .inl (fun _ => 0))), (q_2, .inl (E.2.1 0, 512, .inl (fun _ => 0))), (q_3, .inl (E.2.1 0, 896, .inl (fun _ => 0))), (q_4, .inl (E.2.1 0, 896, .inl (fun _ => 0)))] := hD
  have hP9 := hP.sub (ws' := [(h0, .inr (3, [.ref of, .ref q_1, .ref q_2, .ref q_3, .ref q_4])), (q_1, .inl (E.2.1 0, 512, .inl (fun _ => 0))), (q_2, .inl (E.2.1 0, 512, .inl (fun _ => 0))), (q_3, .inl (E.2.1 0, 896, .inl (fun _ => 0))), (q_4, .inl (E.2.1 0, 896, .inl (fun _ => 0)))]) [0, 1, 2, 3, 4] rfl
  have hD9 := hD.sub (ws' := [(h0, .inr (3, [.ref of, .ref q_1, .ref q_2, .ref q_3, .ref q_4])), (q_1, .inl (E.2.1 0, 512, .inl (fun _ => 0))), (q_2, .inl (E.2.1 0, 512, .inl (fun _ => 0))), (q_3, .inl (E.2.1 0, 896, .inl (fun _ => 0))), (q_4, .inl (E.2.1 0, 896, .inl (fun _ => 0)))]) [0, 1, 2, 3, 4] (by decide) rfl
  exact W.vret hx hb hr (fun t ht hW => ⟨⟨(), rfl, trivial, q_1, q_2, q_3, q_4, by rw [ht]; exact hP9, hD9⟩, hS.F ht⟩) hS.2.2 dX3_init_45
set_option maxHeartbeats 4000000 in
set_option maxRecDepth 100000 in
theorem c_X5_init (l : Launch) (E : vE) (h0 : Nat) (of : Nat) (sz : Nat) : Met l yX5_init wsX5_init ({ frames := 2, cells := 8, slots := 2963, locals := 33 }) (pcW E [.ref h0, .ref of] sz [(h0, .inr (5, [.null, .null, .null, .null, .null, .int 0, .int 0, .int 0]))]) (va_Qv (fun (_ : Unit) => True) (fun (_ : Unit) (t : State) => ∃ (q1 : Nat), ∃ (q2 : Nat), ∃ (q3 : Nat), ∃ (q4 : Nat), ∃ (q5 : Nat), ∃ (q6 : Nat), ∃ (q7 : Nat), ∃ (q8 : Nat), wB E (va_A [(h0, .inr (5, [.null, .null, .null, .null, .null, .int 0, .int 0, .int 0]))] sz) [(h0, .inr (5, [.ref of, .ref q1, .ref q6, .ref q7, .ref q8, .int 0, .int 0, .int 0])), (q1, .inr (3, [.ref of, .ref q2, .ref q3, .ref q4, .ref q5])), (q2, .inl (E.2.1 0, 512, .inl (fun _ => 0))), (q3, .inl (E.2.1 0, 512, .inl (fun _ => 0))), (q4, .inl (E.2.1 0, 896, .inl (fun _ => 0))), (q5, .inl (E.2.1 0, 896, .inl (fun _ => 0))), (q6, .inl (E.2.1 2, 128, .inr (.inl (fun _ => 0)))), (q7, .inl (E.2.1 0, 7, .inl (fun _ => 0))), (q8, .inl (E.2.1 0, 7, .inl (fun _ => 0)))] t) (va_A [(h0, .inr (5, [.null, .null, .null, .null, .null, .int 0, .int 0, .int 0]))] sz)) 8 2963 (va_A [(h0, .inr (5, [.null, .null, .null, .null, .null, .int 0, .int 0, .int 0]))] sz) := by
  refine Met.ofW (cc := cX5_init) (maxL := 2) (ret := none) (by decide) rfl ?_
  intro p e s m args below meth c s₁ B hml hv
  obtain ⟨rfl, hsz, hP, hkn, hD0, hst⟩ := hv
  have hx := B.exec
  have hb := B.bytes
  have hr := B.returns
  have hts := atoms_spec (ws := wsX5_init) B.pre
  have hown : s.vm.findClass RX5 = some m.cls := findClass_of_methodNamed B.named
  have hlocks := B.notSynchronized
  have hin : meth.name = "<init>" := (name_of_methodNamed B.named B.method).1
  subst hsz
  have hD := hD0.self (sz := s.heap.size)
  have hK := hkn.1
  have hAO := hkn.2.2.1
  generalize hAe : va_A [(h0, .inr (5, [.null, .null, .null, .null, .null, .int 0, .int 0, .int 0]))] s.heap.size = A at hD hst ⊢
  have hA : ∀ q : Nat, s.heap.size ≤ q → A q := fun q h => by rw [← hAe]; exact Or.inr h
  have hS : va_S A s.heap s.heap [] := va_S.rf
  have hP : va_P E.1 vwCl [(h0, .inr (5, [.null, .null, .null, .null, .null, .int 0, .int 0, .int 0]))] s.heap := hP
  have hl := lv_entry ([.ref h0, .ref of]) (n := 2) (Nat.le_of_ble_eq_true rfl)
  rw [lg_entry_eq]
  generalize (lg_sl ([.ref h0, .ref of]) ++ List.replicate (2 - (lg_sl ([.ref h0, .ref of])).length) Slot.unset).toArray = ls at hl ⊢
  have hl : lv_has ls 2 [(0, .ref h0), (1, .ref of)] := hl
  have fl9 := hts (.fieldLink RX5 9 "BoatsHome$Plan" "least" "[J") (by first | exact List.mem_of_getElem? (i := 5) rfl | decide +kernel)
  have fl15 := hts (.fieldLink RX5 15 "BoatsHome$Plan" "crewOf" "[I") (by first | exact List.mem_of_getElem? (i := 7) rfl | decide +kernel)
  have fl19 := hts (.fieldLink RX5 19 "BoatsHome$Plan" "dayOf" "[I") (by first | exact List.mem_of_getElem? (i := 8) rfl | decide +kernel)
  have fl22 := hts (.fieldLink RX5 22 "BoatsHome$Plan" "made" "Z") (by first | exact List.mem_of_getElem? (i := 9) rfl | decide +kernel)
  have fl26 := hts (.fieldLink RX5 26 "BoatsHome$Plan" "done" "I") (by first | exact List.mem_of_getElem? (i := 10) rfl | decide +kernel)
  have fl30 := hts (.fieldLink RX5 30 "BoatsHome$Plan" "flightSum" "I") (by first | exact List.mem_of_getElem? (i := 11) rfl | decide +kernel)
  have fl33 := hts (.fieldLink RX5 33 "BoatsHome$Plan" "offers" "LBoatsHome$Offers;") (by first | exact List.mem_of_getElem? (i := 12) rfl | decide +kernel)
  have fl42 := hts (.fieldLink RX5 42 "BoatsHome$Plan" "orders" "LBoatsHome$Orders;") (by first | exact List.mem_of_getElem? (i := 16) rfl | decide +kernel)
  have inX5 : ∀ w ∈ u_ws RX5 TX5 8, w ∈ wsX5_init := by first | exact fun w h9 => (List.mem_cons_of_mem _ (List.mem_append_left _ (List.mem_append_right _ h9))) | decide +kernel
  refine lv_aload_n hx hb dX5_init_0 rfl (lv_at hl 0 rfl) ?_
  refine W.objInit hx hb hown (hts (.methodLink RX5 3 objectInit) (by first | exact List.mem_of_getElem? (i := 1) rfl | decide +kernel)) (hts (.instanceMethod objectInit) (by first | exact List.mem_of_getElem? (i := 2) rfl | decide +kernel)) (hts (.code objectInit ⟨#[0xb1]⟩ 1 none) (by first | exact List.mem_of_getElem? (i := 3) rfl | decide +kernel)) rfl (by rw [hml]; exact hl.1) rfl dX5_init_1 (Nat.le_of_ble_eq_true rfl) (Nat.le_of_ble_eq_true rfl) ?_
  refine W.eq (g2 := F0 m 4 ls []) rfl ?_
  refine lv_aload_n hx hb dX5_init_4 rfl (lv_at hl 0 rfl) ?_
  refine lv_sipush (v := 128) hx hb dX5_init_5 (by decide) ?_
  refine va_newa (a0 := (128, .inr (.inl (fun _ => 0)))) (atype := .long) (ty := .long) hx hb (hts (.arrayClass .long) (by first | exact List.mem_of_getElem? (i := 4) rfl | decide +kernel)) rfl hK hP hD hS hA (n := 128) (N' := 128) (newc_J 128) (by decide) (by decide) (by decide) (Nat.le_of_ble_eq_true rfl) (Nat.le_of_ble_eq_true rfl) dX5_init_8 (fun q_1 cA H hK1 hP hD hS => ?_)
  obtain rfl : cA = E.2.1 2 := k_uniq hK hK1 2 5 rfl rfl (fun C h => by cases h)
  refine W.widen (k := 1) (n := 128) (Nat.le_of_ble_eq_true rfl) (Nat.le_of_ble_eq_true rfl) ?_
  have hP : va_P E.1 vwCl [(h0, .inr (5, [.null, .null, .null, .null, .null, .int 0, .int 0, .int 0])), (q_1, .inl (E.2.1 2, 128, .inr (.inl (fun _ => 0))))] H := hP
  have hD : va_D A [(h0, .inr (5, [.null, .null, .null, .null, .null, .int 0, .int 0, .int 0])), (q_1, .inl (E.2.1 2, 128, .inr (.inl (fun _ => 0))))] := hD
  refine va_putF (D := E.1) (ci := 5) (v := .ref q_1) (ty := .array .long) (C := RX5) (T := TX5) (N := 8) hx hb hts inX5 tyX5 tyX5_ok nmX5 hown hK hP hD hS 0 rfl rfl 2 (by decide) fl9 (fun _ h9 => h9) rfl hin rfl (by decide +kernel) rfl rfl (Nat.le_of_ble_eq_true rfl) dX5_init_10 (fun H locs hP hD hS => ?_)
  have hP : va_P E.1 vwCl [(h0, .inr (5, [.null, .null, .ref q_1, .null, .null, .int 0, .int 0, .int 0])), (q_1, .inl (E.2.1 2, 128, .inr (.inl (fun _ => 0))))] H := hP
  have hD : va_D A [(h0, .inr (5, [.null, .null, .ref q_1, .null, .null, .int 0, .int 0, .int 0])), (q_1, .inl (E.2.1 2, 128, .inr (.inl (fun _ => 0))))] := hD
  refine lv_aload_n hx hb dX5_init_13 rfl (lv_at hl 0 rfl) ?_
  refine lv_bipush (v := 7) hx hb dX5_init_14 (by decide) ?_
  refine va_newa (a0 := (7, .inl (fun _ => 0))) (atype := .int) (ty := .int) hx hb (hts (.arrayClass .int) (by first | exact List.mem_of_getElem? (i := 6) rfl | decide +kernel)) rfl hK hP hD hS hA (n := 7) (N' := 7) (newc_I 7) (by decide) (by decide) (by decide) (Nat.le_of_ble_eq_true rfl) (Nat.le_of_ble_eq_true rfl) dX5_init_16 (fun q_2 cA H hK1 hP hD hS => ?_)
  obtain rfl : cA = E.2.1 0 := k_uniq hK hK1 0 5 rfl rfl (fun C h => by cases h)
  refine W.widen (k := 2) (n := 135) (Nat.le_of_ble_eq_true rfl) (Nat.le_of_ble_eq_true rfl) ?_
  have hP : va_P E.1 vwCl [(h0, .inr (5, [.null, .null, .ref q_1, .null, .null, .int 0, .int 0, .int 0])), (q_1, .inl (E.2.1 2, 128, .inr (.inl (fun _ => 0)))), (q_2, .inl (E.2.1 0, 7, .inl (fun _ => 0)))] H := hP
  have hD : va_D A [(h0, .inr (5, [.null, .null, .ref q_1, .null, .null, .int 0, .int 0, .int 0])), (q_1, .inl (E.2.1 2, 128, .inr (.inl (fun _ => 0)))), (q_2, .inl (E.2.1 0, 7, .inl (fun _ => 0)))] := hD
  refine va_putF (D := E.1) (ci := 5) (v := .ref q_2) (ty := .array .int) (C := RX5) (T := TX5) (N := 8) hx hb hts inX5 tyX5 tyX5_ok nmX5 hown hK hP hD hS 0 rfl rfl 3 (by decide) fl15 (fun _ h9 => h9) rfl hin rfl (by decide +kernel) rfl rfl (Nat.le_of_ble_eq_true rfl) dX5_init_18 (fun H locs hP hD hS => ?_)
  have hP : va_P E.1 vwCl [(h0, .inr (5, [.null, .null, .ref q_1, .ref q_2, .null, .int 0, .int 0, .int 0])), (q_1, .inl (E.2.1 2, 128, .inr (.inl (fun _ => 0)))), (q_2, .inl (E.2.1 0, 7, .inl (fun _ => 0)))] H := hP
  have hD : va_D A [(h0, .inr (5, [.null, .null, .ref q_1, .ref q_2, .null, .int 0, .int 0, .int 0])), (q_1, .inl (E.2.1 2, 128, .inr (.inl (fun _ => 0)))), (q_2, .inl (E.2.1 0, 7, .inl (fun _ => 0)))] := hD
  refine lv_aload_n hx hb dX5_init_21 rfl (lv_at hl 0 rfl) ?_
  refine lv_bipush (v := 7) hx hb dX5_init_22 (by decide) ?_
  refine va_newa (a0 := (7, .inl (fun _ => 0))) (atype := .int) (ty := .int) hx hb (hts (.arrayClass .int) (by first | exact List.mem_of_getElem? (i := 6) rfl | decide +kernel)) rfl hK hP hD hS hA (n := 7) (N' := 7) (newc_I 7) (by decide) (by decide) (by decide) (Nat.le_of_ble_eq_true rfl) (Nat.le_of_ble_eq_true rfl) dX5_init_24 (fun q_3 cA H hK1 hP hD hS => ?_)
  obtain rfl : cA = E.2.1 0 := k_uniq hK hK1 0 5 rfl rfl (fun C h => by cases h)
  refine W.widen (k := 3) (n := 142) (Nat.le_of_ble_eq_true rfl) (Nat.le_of_ble_eq_true rfl) ?_
  have hP : va_P E.1 vwCl [(h0, .inr (5, [.null, .null, .ref q_1, .ref q_2, .null, .int 0, .int 0, .int 0])), (q_1, .inl (E.2.1 2, 128, .inr (.inl (fun _ => 0)))), (q_2, .inl (E.2.1 0, 7, .inl (fun _ => 0))), (q_3, .inl (E.2.1 0, 7, .inl (fun _ => 0)))] H := hP
  have hD : va_D A [(h0, .inr (5, [.null, .null, .ref q_1, .ref q_2, .null, .int 0, .int 0, .int 0])), (q_1, .inl (E.2.1 2, 128, .inr (.inl (fun _ => 0)))), (q_2, .inl (E.2.1 0, 7, .inl (fun _ => 0))), (q_3, .inl (E.2.1 0, 7, .inl (fun _ => 0)))] := hD
  refine va_putF (D := E.1) (ci := 5) (v := .ref q_3) (ty := .array .int) (C := RX5) (T := TX5) (N := 8) hx hb hts inX5 tyX5 tyX5_ok nmX5 hown hK hP hD hS 0 rfl rfl 4 (by decide) fl19 (fun _ h9 => h9) rfl hin rfl (by decide +kernel) rfl rfl (Nat.le_of_ble_eq_true rfl) dX5_init_26 (fun H locs hP hD hS => ?_)
  have hP : va_P E.1 vwCl [(h0, .inr (5, [.null, .null, .ref q_1, .ref q_2, .ref q_3, .int 0, .int 0, .int 0])), (q_1, .inl (E.2.1 2, 128, .inr (.inl (fun _ => 0)))), (q_2, .inl (E.2.1 0, 7, .inl (fun _ => 0))), (q_3, .inl (E.2.1 0, 7, .inl (fun _ => 0)))] H := hP
  have hD : va_D A [(h0, .inr (5, [.null, .null, .ref q_1, .ref q_2, .ref q_3, .int 0, .int 0, .int 0])), (q_1, .inl (E.2.1 2, 128, .inr (.inl (fun _ => 0)))), (q_2, .inl (E.2.1 0, 7, .inl (fun _ => 0))), (q_3, .inl (E.2.1 0, 7, .inl (fun _ => 0)))] := hD
  refine lv_aload_n hx hb dX5_init_29 rfl (lv_at hl 0 rfl) ?_
  refine lv_iconst (v := 0) hx hb dX5_init_30 (by decide) ?_
  refine va_put (D := E.1) (ci := 5) (v := .int 0) (ty := .boolean) (C := RX5) (T := TX5) (N := 8) hx hb hts inX5 tyX5 tyX5_ok nmX5 hown hK hP hD hS 0 rfl rfl 5 (by decide) fl22 (fun _ h9 => h9) rfl (by decide +kernel) (by first | rfl | decide) (by first | rfl | decide) (Nat.le_of_ble_eq_true rfl) dX5_init_31 (fun H locs hP hD hS => ?_)
  have hP : va_P E.1 vwCl [(h0, .inr (5, [.null, .null, .ref q_1, .ref q_2, .ref q_3, .int 0, .int 0, .int 0])), (q_1, .inl (E.2.1 2, 128, .inr (.inl (fun _ => 0)))), (q_2, .inl (E.2.1 0, 7, .inl (fun _ => 0))), (q_3, .inl (E.2.1 0, 7, .inl (fun _ => 0)))] H := hP
  have hD : va_D A [(h0, .inr (5, [.null, .null, .ref q_1, .ref q_2, .ref q_3, .int 0, .int 0, .int 0])), (q_1, .inl (E.2.1 2, 128, .inr (.inl (fun _ => 0)))), (q_2, .inl (E.2.1 0, 7, .inl (fun _ => 0))), (q_3, .inl (E.2.1 0, 7, .inl (fun _ => 0)))] := hD
  refine lv_aload_n hx hb dX5_init_34 rfl (lv_at hl 0 rfl) ?_
  refine lv_iconst (v := 0) hx hb dX5_init_35 (by decide) ?_
  refine va_put (D := E.1) (ci := 5) (v := .int 0) (ty := .int) (C := RX5) (T := TX5) (N := 8) hx hb hts inX5 tyX5 tyX5_ok nmX5 hown hK hP hD hS 0 rfl rfl 6 (by decide) fl26 (fun _ h9 => h9) rfl (by decide +kernel) rfl rfl (Nat.le_of_ble_eq_true rfl) dX5_init_36 (fun H locs hP hD hS => ?_)
  have hP : va_P E.1 vwCl [(h0, .inr (5, [.null, .null, .ref q_1, .ref q_2, .ref q_3, .int 0, .int 0, .int 0])), (q_1, .inl (E.2.1 2, 128, .inr (.inl (fun _ => 0)))), (q_2, .inl (E.2.1 0, 7, .inl (fun _ => 0))), (q_3, .inl (E.2.1 0, 7, .inl (fun _ => 0)))] H := hP
  have hD : va_D A [(h0, .inr (5, [.null, .null, .ref q_1, .ref q_2, .ref q_3, .int 0, .int 0, .int 0])), (q_1, .inl (E.2.1 2, 128, .inr (.inl (fun _ => 0)))), (q_2, .inl (E.2.1 0, 7, .inl (fun _ => 0))), (q_3, .inl (E.2.1 0, 7, .inl (fun _ => 0)))] := hD
  refine lv_aload_n hx hb dX5_init_39 rfl (lv_at hl 0 rfl) ?_
  refine lv_iconst (v := 0) hx hb dX5_init_40 (by decide) ?_
  refine va_put (D := E.1) (ci := 5) (v := .int 0) (ty := .int) (C := RX5) (T := TX5) (N := 8) hx hb hts inX5 tyX5 tyX5_ok nmX5 hown hK hP hD hS 0 rfl rfl 7 (by decide) fl30 (fun _ h9 => h9) rfl (by decide +kernel) rfl rfl (Nat.le_of_ble_eq_true rfl) dX5_init_41 (fun H locs hP hD hS => ?_)
  have hP : va_P E.1 vwCl [(h0, .inr (5, [.null, .null, .ref q_1, .ref q_2, .ref q_3, .int 0, .int 0, .int 0])), (q_1, .inl (E.2.1 2, 128, .inr (.inl (fun _ => 0)))), (q_2, .inl (E.2.1 0, 7, .inl (fun _ => 0))), (q_3, .inl (E.2.1 0, 7, .inl (fun _ => 0)))] H := hP
  have hD : va_D A [(h0, .inr (5, [.null, .null, .ref q_1, .ref q_2, .ref q_3, .int 0, .int 0, .int 0])), (q_1, .inl (E.2.1 2, 128, .inr (.inl (fun _ => 0)))), (q_2, .inl (E.2.1 0, 7, .inl (fun _ => 0))), (q_3, .inl (E.2.1 0, 7, .inl (fun _ => 0)))] := hD
  refine lv_aload_n hx hb dX5_init_44 rfl (lv_at hl 0 rfl) ?_
  refine lv_aload_n hx hb dX5_init_45 rfl (lv_at hl 1 rfl) ?_
  refine va_putF (D := E.1) (ci := 5) (v := .ref of) (ty := .object "BoatsHome$Offers") (C := RX5) (T := TX5) (N := 8) hx hb hts inX5 tyX5 tyX5_ok nmX5 hown hK hP hD hS 0 rfl rfl 0 (by decide) fl33 (fun _ h9 => h9) rfl hin rfl (by decide +kernel) rfl rfl (Nat.le_of_ble_eq_true rfl) dX5_init_46 (fun H locs hP hD hS => ?_)
  have hP : va_P E.1 vwCl [(h0, .inr (5, [.ref of, .null, .ref q_1, .ref q_2, .ref q_3, .int 0, .int 0, .int 0])), (q_1, .inl (E.2.1 2, 128, .inr (.inl (fun _ => 0)))), (q_2, .inl (E.2.1 0, 7, .inl (fun _ => 0))), (q_3, .inl (E.2.1 0, 7, .inl (fun _ => 0)))] H := hP
  have hD : va_D A [(h0, .inr (5, [.ref of, .null, .ref q_1, .ref q_2, .ref q_3, .int 0, .int 0, .int 0])), (q_1, .inl (E.2.1 2, 128, .inr (.inl (fun _ => 0)))), (q_2, .inl (E.2.1 0, 7, .inl (fun _ => 0))), (q_3, .inl (E.2.1 0, 7, .inl (fun _ => 0)))] := hD
  refine lv_aload_n hx hb dX5_init_49 rfl (lv_at hl 0 rfl) ?_
  have inX3 : ∀ w ∈ u_ws RX3 TX3 5, w ∈ wsX5_init := by first | exact fun w h9 => (List.mem_cons_of_mem _ (List.mem_append_right _ h9)) | decide +kernel
  refine va_new (ci := 3) (fs := [.null, .null, .null, .null, .null]) (C := RX3) (T := TX3) (N := 5) hx hb hts inX3 tyX3 tyX3_ok hown (hts (.classLink RX5 37 RX3) (by first | exact List.mem_of_getElem? (i := 13) rfl | decide +kernel)) (hts (.instantiable RX3 5) (by first | exact List.mem_of_getElem? (i := 14) rfl | decide +kernel)) (hts (.initialized RX3) (by first | exact List.mem_of_getElem? (i := 15) rfl | decide +kernel)) hK hP hD hS hA rfl (by decide +kernel) (Nat.le_of_ble_eq_true rfl) (Nat.le_of_ble_eq_true rfl) dX5_init_50 (fun q_4 H hP hD hS => ?_)
  refine W.widen (k := 4) (n := 147) (Nat.le_of_ble_eq_true rfl) (Nat.le_of_ble_eq_true rfl) ?_
  have hP : va_P E.1 vwCl [(h0, .inr (5, [.ref of, .null, .ref q_1, .ref q_2, .ref q_3, .int 0, .int 0, .int 0])), (q_1, .inl (E.2.1 2, 128, .inr (.inl (fun _ => 0)))), (q_2, .inl (E.2.1 0, 7, .inl (fun _ => 0))), (q_3, .inl (E.2.1 0, 7, .inl (fun _ => 0))), (q_4, .inr (3, [.null, .null, .null, .null, .null]))] H := hP
  have hD : va_D A [(h0, .inr (5, [.ref of, .null, .ref q_1, .ref q_2, .ref q_3, .int 0, .int 0, .int 0])), (q_1, .inl (E.2.1 2, 128, .inr (.inl (fun _ => 0)))), (q_2, .inl (E.2.1 0, 7, .inl (fun _ => 0))), (q_3, .inl (E.2.1 0, 7, .inl (fun _ => 0))), (q_4, .inr (3, [.null, .null, .null, .null, .null]))] := hD
  refine lv_dup hx hb dX5_init_53 rfl ?_
  refine lv_aload_n hx hb dX5_init_54 rfl (lv_at hl 1 rfl) ?_
  have hPc := hP.sub (ws' := [(q_4, .inr (3, [.null, .null, .null, .null, .null]))]) [4] rfl
  have hDc := hD.sub (ws' := [(q_4, .inr (3, [.null, .null, .null, .null, .null]))]) [4] (by decide) rfl
  have hFc := va_free (wc := [(q_4, .inr (3, [.null, .null, .null, .null, .null]))]) hD hS hA [4] rfl
  refine va_callv (va_runI (As := [.ref of]) (rest := [.ref q_4, .ref h0]) ⟨hx, hb, hml, hown, hts⟩ (c_X3_init l E q_4 of H.size ) (cwI 1 hts gX5_init_X3_init rfl rfl rfl (hts (.initialized RX3) (by first | exact List.mem_of_getElem? (i := 15) rfl | decide +kernel)) (hts (.methodLink RX5 39 yX3_init) (by first | exact List.mem_of_getElem? (i := 17) rfl | decide +kernel)) (hts (.instanceMethod yX3_init) (by first | exact List.mem_of_getElem? (i := 18) rfl | decide +kernel)) rfl (by decide +kernel) ⟨Nat.le_of_ble_eq_true rfl, Nat.le_of_ble_eq_true rfl⟩) ⟨pcW_blind, (pcW_pre hPc hkn hDc hst hS hFc)⟩ rfl rfl hl.1 rfl (lv_room (Nat.le_of_ble_eq_true rfl)) dX5_init_55 ⟨Nat.le_of_ble_eq_true rfl, Nat.le_of_ble_eq_true rfl⟩) hS (fun q _ h => hFc q h) hFc (fun u t H1 locs ht hvm hw_6 hB hz1 hk1 hS => ?_)
  obtain ⟨q_7, q_8, q_9, q_10, hP1, hD1⟩ := hB
  rw [ht] at hP1
  try dsimp only at hw_6
  obtain ⟨hP, hD⟩ := va_join (wr := [(h0, .inr (5, [.ref of, .null, .ref q_1, .ref q_2, .ref q_3, .int 0, .int 0, .int 0])), (q_1, .inl (E.2.1 2, 128, .inr (.inl (fun _ => 0)))), (q_2, .inl (E.2.1 0, 7, .inl (fun _ => 0))), (q_3, .inl (E.2.1 0, 7, .inl (fun _ => 0)))]) (w1 := [(q_4, .inr (3, [.ref of, .ref q_7, .ref q_8, .ref q_9, .ref q_10])), (q_7, .inl (E.2.1 0, 512, .inl (fun _ => 0))), (q_8, .inl (E.2.1 0, 512, .inl (fun _ => 0))), (q_9, .inl (E.2.1 0, 896, .inl (fun _ => 0))), (q_10, .inl (E.2.1 0, 896, .inl (fun _ => 0)))]) hP hD [4] [0, 1, 2, 3] rfl rfl (by decide) (by decide) hk1 hFc hP1 hD1
  generalize H1 = H at hP hS ⊢
  have hP : va_P E.1 vwCl [(h0, .inr (5, [.ref of, .null, .ref q_1, .ref q_2, .ref q_3, .int 0, .int 0, .int 0])), (q_1, .inl (E.2.1 2, 128, .inr (.inl (fun _ => 0)))), (q_2, .inl (E.2.1 0, 7, .inl (fun _ => 0))), (q_3, .inl (E.2.1 0, 7, .inl (fun _ => 0))), (q_4, .inr (3, [.ref of, .ref q_7, .ref q_8, .ref q_9, .ref q_10])), (q_7, .inl (E.2.1 0, 512, .inl (fun _ => 0))), (q_8, .inl (E.2.1 0, 512, .inl (fun _ => 0))), (q_9, .inl (E.2.1 0, 896, .inl (fun _ => 0))), (q_10, .inl (E.2.1 0, 896, .inl (fun _ => 0)))] H := hP
  have hD : va_D A [(h0, .inr (5, [.ref of, .null, .ref q_1, .ref q_2, .ref q_3, .int 0, .int 0, .int 0])), (q_1, .inl (E.2.1 2, 128, .inr (.inl (fun _ => 0)))), (q_2, .inl (E.2.1 0, 7, .inl (fun _ => 0))), (q_3, .inl (E.2.1 0, 7, .inl (fun _ => 0))), (q_4, .inr (3, [.ref of, .ref q_7, .ref q_8, .ref q_9, .ref q_10])), (q_7, .inl (E.2.1 0, 512, .inl (fun _ => 0))), (q_8, .inl (E.2.1 0, 512, .inl (fun _ => 0))), (q_9, .inl (E.2.1 0, 896, .inl (fun _ => 0))), (q_10, .inl (E.2.1 0, 896, .inl (fun _ => 0)))] := hD
  refine W.widen (k := 8) (n := 2963) (Nat.le_of_ble_eq_true rfl) (Nat.le_of_ble_eq_true rfl) ?_
  refine va_putF (D := E.1) (ci := 5) (v := .ref q_4) (ty := .object "BoatsHome$Orders") (C := RX5) (T := TX5) (N := 8) hx hb hts inX5 tyX5 tyX5_ok nmX5 hown hK hP hD hS 0 rfl rfl 1 (by decide) fl42 (fun _ h9 => h9) rfl hin rfl (by decide +kernel) rfl rfl (Nat.le_of_ble_eq_true rfl) dX5_init_58 (fun H locs hP hD hS => ?_)
  have hP : va_P E.1 vwCl [(h0, .inr (5, [.ref of, .ref q_4, .ref q_1, .ref q_2, .ref q_3, .int 0, .int 0, .int 0])), (q_1, .inl (E.2.1 2, 128, .inr (.inl (fun _ => 0)))), (q_2, .inl (E.2.1 0, 7, .inl (fun _ => 0))), (q_3, .inl (E.2.1 0, 7, .inl (fun _ => 0))), (q_4, .inr (3, [.ref of, .ref q_7, .ref q_8, .ref q_9, .ref q_10])), (q_7, .inl (E.2.1 0, 512, .inl (fun _ => 0))), (q_8, .inl (E.2.1 0, 512, .inl (fun _ => 0))), (q_9, .inl (E.2.1 0, 896, .inl (fun _ => 0))), (q_10, .inl (E.2.1 0, 896, .inl (fun _ => 0)))] H := hP
  have hD : va_D A [(h0, .inr (5, [.ref of, .ref q_4, .ref q_1, .ref q_2, .ref q_3, .int 0, .int 0, .int 0])), (q_1, .inl (E.2.1 2, 128, .inr (.inl (fun _ => 0)))), (q_2, .inl (E.2.1 0, 7, .inl (fun _ => 0))), (q_3, .inl (E.2.1 0, 7, .inl (fun _ => 0))), (q_4, .inr (3, [.ref of, .ref q_7, .ref q_8, .ref q_9, .ref q_10])), (q_7, .inl (E.2.1 0, 512, .inl (fun _ => 0))), (q_8, .inl (E.2.1 0, 512, .inl (fun _ => 0))), (q_9, .inl (E.2.1 0, 896, .inl (fun _ => 0))), (q_10, .inl (E.2.1 0, 896, .inl (fun _ => 0)))] := hD
  have hP9 := hP.sub (ws' := [(h0, .inr (5, [.ref of, .ref q_4, .ref q_1, .ref q_2, .ref q_3, .int 0, .int 0, .int 0])), (q_4, .inr (3, [.ref of, .ref q_7, .ref q_8, .ref q_9, .ref q_10])), (q_7, .inl (E.2.1 0, 512, .inl (fun _ => 0))), (q_8, .inl (E.2.1 0, 512, .inl (fun _ => 0))), (q_9, .inl (E.2.1 0, 896, .inl (fun _ => 0))), (q_10, .inl (E.2.1 0, 896, .inl (fun _ => 0))), (q_1, .inl (E.2.1 2, 128, .inr (.inl (fun _ => 0)))), (q_2, .inl (E.2.1 0, 7, .inl (fun _ => 0))), (q_3, .inl (E.2.1 0, 7, .inl (fun _ => 0)))]) [0, 4, 5, 6, 7, 8, 1, 2, 3] rfl
  have hD9 := hD.sub (ws' := [(h0, .inr (5, [.ref of, .ref q_4, .ref q_1, .ref q_2, .ref q_3, .int 0, .int 0, .int 0])), (q_4, .inr (3, [.ref of, .ref q_7, .ref q_8, .ref q_9, .ref q_10])), (q_7, .inl (E.2.1 0, 512, .inl (fun _ => 0))), (q_8, .inl (E.2.1 0, 512, .inl (fun _ => 0))), (q_9, .inl (E.2.1 0, 896, .inl (fun _ => 0))), (q_10, .inl (E.2.1 0, 896, .inl (fun _ => 0))), (q_1, .inl (E.2.1 2, 128, .inr (.inl (fun _ => 0)))), (q_2, .inl (E.2.1 0, 7, .inl (fun _ => 0))), (q_3, .inl (E.2.1 0, 7, .inl (fun _ => 0)))]) [0, 4, 5, 6, 7, 8, 1, 2, 3] (by decide) rfl
  exact W.vret hx hb hr (fun t ht hW => ⟨⟨(), rfl, trivial, q_4, q_7, q_8, q_9, q_10, q_1, q_2, q_3, by rw [ht]; exact hP9, hD9⟩, hS.F ht⟩) hS.2.2 dX5_init_61
