set_option maxHeartbeats 4000000 in
set_option maxRecDepth 100000 in
theorem lp_fillJ {p : Program} {l : Launch} {e : Env} {R : Room} {s : State} {m : MethodId} {args : Array Value} {below : List Frame} {meth : Method} {c : Code} {cells slots : Nat} {Q : State → Prop} {A : Nat → Prop} (E : vE) (ha : Nat) (n : Nat) (v : Int64) (hx : p.tables.exec = Jvm.exec) (hb : c.code = cJ7_fill_d0a16) (hml : c.maxLocals = 5) (hown : s.vm.findClass RJ7 = some m.cls) (hts : ∀ w ∈ wsJ7_fill_d0a16, w.before args s = true) (hkn : kn E s) (hst : st E A s s.heap) (hA : ∀ q : Nat, s.heap.size ≤ q → A q) (hn : n < 2 ^ 31) (kk : ∀ (f : Nat → Int64) (H : Heap) (locs : List Loc) (ls : Array Slot), (∀ k, k < n → f k = v) → va_P E.1 vwCl [(ha, .inl (E.2.1 2, n, .inr (.inl f)))] H → va_D A [(ha, .inl (E.2.1 2, n, .inr (.inl f)))] → va_S A s.heap H locs → lv_has ls 5 [(0, .ref ha)] → W p l e R s m args below meth c H locs cells slots Q (F0 m 22 ls [])) : ∀ (n0 : Nat) (i : Nat) (f : Nat → Int64) (H : Heap) (locs : List Loc) (ls : Array Slot), n - i < n0 → (i ≤ n) → (∀ k, k < i → f k = v) → va_P E.1 vwCl [(ha, .inl (E.2.1 2, n, .inr (.inl f)))] H → va_D A [(ha, .inl (E.2.1 2, n, .inr (.inl f)))] → va_S A s.heap H locs → lv_has ls 5 [(0, .ref ha), (1, .long v), (3, .int (nI i)), (4, .int (nI n))] → W p l e R s m args below meth c H locs cells slots Q (F0 m 6 ls []) := by
  have hK := hkn.1
  have hAO := hkn.2.2.1
  intro n0
  induction n0 with
  | zero =>
    intro i f H locs ls hn0
    exact absurd hn0 (Nat.not_lt_zero _)
  | succ n0 ih =>
    intro i f H locs ls hn0 hi hf hP hD hS hl
    refine lv_iload_n hx hb dJ7_fill_d0a16_6 rfl (lv_at hl 2 rfl) ?_
    refine lv_iload hx hb dJ7_fill_d0a16_7 (lv_at hl 3 rfl) ?_
    refine lv_icmp_ge (tgt := 22) hx hb dJ7_fill_d0a16_9 (by decide) (fun c_1 => ?_) (fun c_1 => ?_)
    · have hge : n ≤ i := (nI_leI hn (by omega)).mp c_1
      exact kk f _ _ _ (fun k hk => hf k (by omega)) (hP.sub [0] rfl) (hD.sub [0] (by decide) rfl) hS (lv_sub hl [0] rfl)
    · have hlt : i < n := by
        rcases Nat.lt_or_ge i n with q | q
        · exact q
        · exact absurd (nI_le q (by omega)) c_1
      refine lv_aload_n hx hb dJ7_fill_d0a16_12 rfl (lv_at hl 0 rfl) ?_
      refine lv_iload_n hx hb dJ7_fill_d0a16_13 rfl (lv_at hl 2 rfl) ?_
      refine lv_lload_n hx hb dJ7_fill_d0a16_14 rfl (lv_at hl 1 rfl) ?_
      refine va_last hx hb hK hP hD hS 0 2 rfl rfl (vp_in_nI hlt hn) dJ7_fill_d0a16_15 (fun H locs hP hD hS => ?_)
      have hP : va_P E.1 vwCl [(ha, .inl (E.2.1 2, n, .inr (.inl (vp_updL f (nI i).toNatClampNeg v))))] H := hP
      have hD : va_D A [(ha, .inl (E.2.1 2, n, .inr (.inl (vp_updL f (nI i).toNatClampNeg v))))] := hD
      obtain ⟨f_2, ef_2⟩ : ∃ g : Nat → Int64, g = vp_updL f (nI i).toNatClampNeg v := ⟨_, rfl⟩
      rw [← ef_2] at hP hD
      refine lv_iinc (v := (nI (i + 1))) (lv' := [(3, .int (nI (i + 1))), (0, .ref ha), (1, .long v), (4, .int (nI n))]) hx hb dJ7_fill_d0a16_16 hl (k := 2) rfl (show nI i + 1 = nI (i + 1) from nI_1 i) (by decide) rfl (fun ls hl => ?_)
      refine lv_goto (tgt := 6) hx hb dJ7_fill_d0a16_19 (by decide) ?_
      exact ih (i + 1) f_2 _ _ _ (by omega) (by omega) (by
            intro k hk
            rw [ef_2, nI_clamp (by omega)]
            by_cases hki : k = i
            · rw [hki, pk_uLs]
            · rw [pk_uLn hki]; exact hf k (by omega)) (hP.sub [0] rfl) (hD.sub [0] (by decide) rfl) hS (lv_sub hl [1, 2, 0, 3] rfl)
set_option maxHeartbeats 4000000 in
set_option maxRecDepth 100000 in
theorem c_J7_fill_d0a16 (l : Launch) (E : vE) (ha : Nat) (n : Nat) (f : Nat → Int64) (v : Int64) (sz : Nat) (hn : n < 2 ^ 31) : Met l yJ7_fill_d0a16 wsJ7_fill_d0a16 ({ frames := 0, cells := 0, slots := 0, locals := 0 }) (pcW E [.ref ha, .long v] sz [(ha, .inl (E.2.1 2, n, .inr (.inl f)))]) (va_Qv (fun (f2 : (Nat → Int64)) => ∀ k, k < n → f2 k = v) (fun (f2 : (Nat → Int64)) (t : State) => wB E (va_A [(ha, .inl (E.2.1 2, n, .inr (.inl f)))] sz) [(ha, .inl (E.2.1 2, n, .inr (.inl f2)))] t) (va_A [(ha, .inl (E.2.1 2, n, .inr (.inl f)))] sz)) 0 0 (va_A [(ha, .inl (E.2.1 2, n, .inr (.inl f)))] sz) := by
  refine Met.ofW (cc := cJ7_fill_d0a16) (maxL := 5) (ret := none) (by decide) rfl ?_
  intro p e s m args below meth c s₁ B hml hv
  obtain ⟨rfl, hsz, hP, hkn, hD0, hst⟩ := hv
  have hx := B.exec
  have hb := B.bytes
  have hr := B.returns
  have hts := atoms_spec (ws := wsJ7_fill_d0a16) B.pre
  have hown : s.vm.findClass RJ7 = some m.cls := findClass_of_methodNamed B.named
  have hlocks := B.notSynchronized
  subst hsz
  have hD := hD0.self (sz := s.heap.size)
  have hK := hkn.1
  have hAO := hkn.2.2.1
  generalize hAe : va_A [(ha, .inl (E.2.1 2, n, .inr (.inl f)))] s.heap.size = A at hD hst ⊢
  have hA : ∀ q : Nat, s.heap.size ≤ q → A q := fun q h => by rw [← hAe]; exact Or.inr h
  have hS : va_S A s.heap s.heap [] := va_S.rf
  have hP : va_P E.1 vwCl [(ha, .inl (E.2.1 2, n, .inr (.inl f)))] s.heap := hP
  have hl := lv_entry ([.ref ha, .long v]) (n := 5) (Nat.le_of_ble_eq_true rfl)
  rw [lg_entry_eq]
  generalize (lg_sl ([.ref ha, .long v]) ++ List.replicate (5 - (lg_sl ([.ref ha, .long v])).length) Slot.unset).toArray = ls at hl ⊢
  have hl : lv_has ls 5 [(0, .ref ha), (1, .long v)] := hl
  refine lv_iconst (v := 0) hx hb dJ7_fill_d0a16_0 (by decide) ?_
  refine lv_istore_n (lv' := [(3, .int 0), (0, .ref ha), (1, .long v)]) hx hb dJ7_fill_d0a16_1 rfl hl (by decide) rfl (fun ls hl => ?_)
  refine lv_aload_n hx hb dJ7_fill_d0a16_2 rfl (lv_at hl 1 rfl) ?_
  refine va_alen (v := (nI n)) hx hb hK hP 0 2 rfl rfl rfl dJ7_fill_d0a16_3 ?_
  refine lv_istore (lv' := [(4, .int (nI n)), (3, .int 0), (0, .ref ha), (1, .long v)]) hx hb dJ7_fill_d0a16_4 hl (by decide) rfl (fun ls hl => ?_)
  have hPl := hP.sub (ws' := [(ha, .inl (E.2.1 2, n, .inr (.inl f)))]) [0] rfl
  have hDl := hD.sub (ws' := [(ha, .inl (E.2.1 2, n, .inr (.inl f)))]) [0] (by decide) rfl
  refine lp_fillJ E ha n v hx hb hml hown hts hkn hst hA hn (fun f9 H locs ls hf hP hD hS hl => ?_) (n + 1) 0 f _ _ _ (by omega) (Nat.zero_le n) (fun k hk => absurd hk (Nat.not_lt_zero k)) hPl hDl hS (lv_sub hl [2, 3, 1, 0] rfl)
  have hP : va_P E.1 vwCl [(ha, .inl (E.2.1 2, n, .inr (.inl f9)))] H := hP
  have hD : va_D A [(ha, .inl (E.2.1 2, n, .inr (.inl f9)))] := hD
  have hP9 := hP.sub (ws' := [(ha, .inl (E.2.1 2, n, .inr (.inl f9)))]) [0] rfl
  have hD9 := hD.sub (ws' := [(ha, .inl (E.2.1 2, n, .inr (.inl f9)))]) [0] (by decide) rfl
  exact W.vret hx hb hr (fun t ht hW => ⟨⟨f9, rfl, hf, by rw [ht]; exact hP9, hD9⟩, hS.F ht⟩) hS.2.2 dJ7_fill_d0a16_22
