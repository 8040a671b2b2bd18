set_option maxHeartbeats 4000000 in
set_option maxRecDepth 100000 in
/-- behind a call: the script has no other -/
theorem law_end {p : Program} {e : Env} {s : State} {m : MethodId} {below : List Frame} {meth : Method} {c : Code} (l : Launch) {b : Nat} {xs : Nat → Int32} (C0 : lw_At p s m meth c b 6 xs) {A : Nat → Prop} (hA : ∀ q : Nat, s.heap.size ≤ q → A q) (hbA : ¬ A b) (hAs : ∀ q : Nat, A q → s.heap.size ≤ q) (H : Heap) (locs : List Loc) (hS : va_S A s.heap H locs) (ls : Array Slot) (x0 h1 : Nat) (hl : lv_has ls 4 [(3, .int 0), (2, .ref h1), (1, .ref x0), (0, .ref b)]) : W p l e room_1 s m #[Value.ref b] below meth c H locs 600000 7302249 (lw_Z below #[Value.ref b] s) (F0 m 1029 ls []) := by
  obtain ⟨hx, hb, hr, hml, hown0, hts0, hX, hbl, hlocks, hgv⟩ := id C0
  have hown : s.vm.findClass RL = some m.cls := hown0
  have hts : ∀ w ∈ wsL_law, w.before #[Value.ref b] s = true := fun w h => hts0 w (wsL_law_in w h)
  refine lv_iinc (v := 6) (lv' := [(3, .int 6), (2, .ref h1), (1, .ref x0), (0, .ref b)]) hx hb dL_law_1029 hl (k := 0) rfl (by decide) (by decide) rfl (fun ls hl => ?_)
  refine lv_goto (tgt := 18) hx hb dL_law_1032 (by decide) ?_
  refine lv_iload_n hx hb dL_law_18 rfl (lv_at hl 0 rfl) ?_
  refine lv_aload_n hx hb dL_law_19 rfl (lv_at hl 3 rfl) ?_
  refine va_slen hx hb hX hbl hbA hS dL_law_20 ?_
  refine lv_topi (fun x1 ex1 => ?_)
  obtain rfl : x1 = 6 := ex1
  refine lv_bipush (v := 6) hx hb dL_law_21 (by decide) ?_
  refine lv_isub hx hb dL_law_23 ?_
  refine lv_topi (fun x2 ex2 => ?_)
  obtain rfl : x2 = 0 := ex2.trans (by decide +kernel)
  refine lv_icmp_gt (tgt := 1035) hx hb dL_law_24 (by decide) (fun _ => ?_) (fun c9 => absurd c9 (by decide))
  refine lv_iconst (v := 1) hx hb dL_law_1035 (by decide) ?_
  refine va_forget (fun q hq => hAs _ (hS.2.2 q hq)) ?_
  exact lw_ret hx hb hr hlocks dL_law_1036
set_option maxHeartbeats 4000000 in
set_option maxRecDepth 100000 in
theorem op_feed {p : Program} {e : Env} {s : State} {m : MethodId} {below : List Frame} {meth : Method} {c : Code} (l : Launch) {b : Nat} {xs : Nat → Int32} (C0 : lw_At p s m meth c b 6 xs) {A : Nat → Prop} (hA : ∀ q : Nat, s.heap.size ≤ q → A q) (hbA : ¬ A b) (hAs : ∀ q : Nat, A q → s.heap.size ≤ q) (E : vE) (hkn : kn E s) (hst : st A s s.heap) (x0 h1 : Nat) (tp : Nat) (rd : Nat) (se : Nat) (ba : Nat) (of : Nat) (pl : Nat) (sr : Nat) (sc : Nat) (by_ : Nat) (q : Nat → Nat) (H : Heap) (locs : List Loc) (hP : va_P E.1 vwCl [(x0, .inr (11, [.ref tp, .ref rd, .ref se, .ref ba, .ref of, .ref pl, .ref sr, .ref sc, .int 0])), (tp, .inr (9, [.ref by_, .int 0])), (by_, .inl (E.2 0, 800, .inl (fun _ => 0))), (h1, .inr (12, mO q)), (q 0, .inl (E.2 3, 800, .inl (fun _ => 0)))] H) (hD : va_D A [(x0, .inr (11, [.ref tp, .ref rd, .ref se, .ref ba, .ref of, .ref pl, .ref sr, .ref sc, .int 0])), (tp, .inr (9, [.ref by_, .int 0])), (by_, .inl (E.2 0, 800, .inl (fun _ => 0))), (h1, .inr (12, mO q)), (q 0, .inl (E.2 3, 800, .inl (fun _ => 0)))]) (hS : va_S A s.heap H locs) (ls : Array Slot) (hl : lv_has ls 4 [(3, .int 0), (2, .ref h1), (1, .ref x0), (0, .ref b)]) : W p l e room_1 s m #[Value.ref b] below meth c H locs 600000 7302249 (lw_Z below #[Value.ref b] s) (F0 m 140 ls []) := by
  obtain ⟨hx, hb, hr, hml, hown0, hts0, hX, hbl, hlocks, hgv⟩ := id C0
  have hown : s.vm.findClass RL = some m.cls := hown0
  have hts : ∀ w ∈ wsL_law, w.before #[Value.ref b] s = true := fun w h => hts0 w (wsL_law_in w h)
  have hK := hkn.1
  refine lv_aload_n hx hb dL_law_140 rfl (lv_at hl 2 rfl) ?_
  refine lv_aload_n hx hb dL_law_141 rfl (lv_at hl 3 rfl) ?_
  refine lv_iload_n hx hb dL_law_142 rfl (lv_at hl 0 rfl) ?_
  refine lv_iconst (v := 1) hx hb dL_law_143 (by decide) ?_
  refine lv_iadd hx hb dL_law_144 ?_
  refine lv_topi (fun x1 ex1 => ?_)
  obtain rfl : x1 = 1 := ex1.trans (by decide +kernel)
  refine va_sld hx hb hX hbl hbA hS (show vp_in 1 6 from by unfold vp_in; decide) dL_law_145 ?_
  refine lv_topi (fun x2 ex2 => ?_)
  obtain rfl : x2 = xs 1 := ex2
  refine lv_aload_n hx hb dL_law_146 rfl (lv_at hl 3 rfl) ?_
  refine lv_iload_n hx hb dL_law_147 rfl (lv_at hl 0 rfl) ?_
  refine lv_iconst (v := 2) hx hb dL_law_148 (by decide) ?_
  refine lv_iadd hx hb dL_law_149 ?_
  refine lv_topi (fun x3 ex3 => ?_)
  obtain rfl : x3 = 2 := ex3.trans (by decide +kernel)
  refine va_sld hx hb hX hbl hbA hS (show vp_in 2 6 from by unfold vp_in; decide) dL_law_150 ?_
  refine lv_topi (fun x4 ex4 => ?_)
  obtain rfl : x4 = xs 2 := ex4
  refine lv_aload_n hx hb dL_law_151 rfl (lv_at hl 3 rfl) ?_
  refine lv_iload_n hx hb dL_law_152 rfl (lv_at hl 0 rfl) ?_
  refine lv_iconst (v := 3) hx hb dL_law_153 (by decide) ?_
  refine lv_iadd hx hb dL_law_154 ?_
  refine lv_topi (fun x5 ex5 => ?_)
  obtain rfl : x5 = 3 := ex5.trans (by decide +kernel)
  refine va_sld hx hb hX hbl hbA hS (show vp_in 3 6 from by unfold vp_in; decide) dL_law_155 ?_
  refine lv_topi (fun x6 ex6 => ?_)
  obtain rfl : x6 = xs 3 := ex6
  refine lv_aload_n hx hb dL_law_156 rfl (lv_at hl 3 rfl) ?_
  refine lv_iload_n hx hb dL_law_157 rfl (lv_at hl 0 rfl) ?_
  refine lv_iconst (v := 4) hx hb dL_law_158 (by decide) ?_
  refine lv_iadd hx hb dL_law_159 ?_
  refine lv_topi (fun x7 ex7 => ?_)
  obtain rfl : x7 = 4 := ex7.trans (by decide +kernel)
  refine va_sld hx hb hX hbl hbA hS (show vp_in 4 6 from by unfold vp_in; decide) dL_law_160 ?_
  refine lv_topi (fun x8 ex8 => ?_)
  obtain rfl : x8 = xs 4 := ex8
  refine lv_aload_n hx hb dL_law_161 rfl (lv_at hl 3 rfl) ?_
  refine lv_iload_n hx hb dL_law_162 rfl (lv_at hl 0 rfl) ?_
  refine lv_iconst (v := 5) hx hb dL_law_163 (by decide) ?_
  refine lv_iadd hx hb dL_law_164 ?_
  refine lv_topi (fun x9 ex9 => ?_)
  obtain rfl : x9 = 5 := ex9.trans (by decide +kernel)
  refine va_sld hx hb hX hbl hbA hS (show vp_in 5 6 from by unfold vp_in; decide) dL_law_165 ?_
  refine lv_topi (fun x10 ex10 => ?_)
  obtain rfl : x10 = xs 5 := ex10
  have hPc := hP.sub (ws' := [(x0, .inr (11, [.ref tp, .ref rd, .ref se, .ref ba, .ref of, .ref pl, .ref sr, .ref sc, .int 0])), (tp, .inr (9, [.ref by_, .int 0])), (by_, .inl (E.2 0, 800, .inl (fun _ => 0)))]) [0, 1, 2] rfl
  have hDc := hD.sub (ws' := [(x0, .inr (11, [.ref tp, .ref rd, .ref se, .ref ba, .ref of, .ref pl, .ref sr, .ref sc, .int 0])), (tp, .inr (9, [.ref by_, .int 0])), (by_, .inl (E.2 0, 800, .inl (fun _ => 0)))]) [0, 1, 2] (by decide) rfl
  have hFc := va_free (wc := [(x0, .inr (11, [.ref tp, .ref rd, .ref se, .ref ba, .ref of, .ref pl, .ref sr, .ref sc, .int 0])), (tp, .inr (9, [.ref by_, .int 0])), (by_, .inl (E.2 0, 800, .inl (fun _ => 0)))]) hD hS hA [0, 1, 2] rfl
  refine va_calli (va_runV (As := [.int (xs 1), .int (xs 2), .int (xs 3), .int (xs 4), .int (xs 5)]) (rest := []) ⟨hx, hb, hml, hown, hts⟩ (c_X11_feed l E x0 tp rd se ba of pl sr sc by_ (xs 1) (xs 2) (xs 3) (xs 4) (xs 5) H.size ) (cwV 5 hts gL_law_X11_feed rfl rfl rfl (by decide +kernel) ⟨Nat.le_of_ble_eq_true rfl, Nat.le_of_ble_eq_true rfl⟩) ⟨pcW_blind, va_recv hK hPc (ci := 11) (q0 := 0) rfl rfl, (pcW_pre hPc hkn hDc hst hS hFc)⟩ rfl rfl hl.1 rfl (lv_room (Nat.le_of_ble_eq_true rfl)) dL_law_166 ⟨Nat.le_of_ble_eq_true rfl, Nat.le_of_ble_eq_true rfl⟩) hS (fun q _ h => hFc q h) hFc (fun r11 u t H1 locs ht hvm hw12 hB hz1 hk1 hS => ?_)
  obtain ⟨hP1, hD1⟩ := hB
  rw [ht] at hP1
  try dsimp only at hw12
  obtain ⟨hP, hD⟩ := va_join (wr := [(h1, .inr (12, mO q)), (q 0, .inl (E.2 3, 800, .inl (fun _ => 0)))]) (w1 := []) hP hD [0, 1, 2] [3, 4] rfl rfl (by decide) (by decide) hk1 hFc hP1 hD1
  generalize H1 = H at hP hS ⊢
  have hP : va_P E.1 vwCl [(h1, .inr (12, mO q)), (q 0, .inl (E.2 3, 800, .inl (fun _ => 0)))] H := hP
  have hD : va_D A [(h1, .inr (12, mO q)), (q 0, .inl (E.2 3, 800, .inl (fun _ => 0)))] := hD
  refine lv_aload_n hx hb dL_law_169 rfl (lv_at hl 1 rfl) ?_
  refine lv_aload_n hx hb dL_law_170 rfl (lv_at hl 3 rfl) ?_
  refine lv_iload_n hx hb dL_law_171 rfl (lv_at hl 0 rfl) ?_
  refine lv_iconst (v := 1) hx hb dL_law_172 (by decide) ?_
  refine lv_iadd hx hb dL_law_173 ?_
  refine lv_topi (fun x13 ex13 => ?_)
  obtain rfl : x13 = 1 := ex13.trans (by decide +kernel)
  refine va_sld hx hb hX hbl hbA hS (show vp_in 1 6 from by unfold vp_in; decide) dL_law_174 ?_
  refine lv_topi (fun x14 ex14 => ?_)
  obtain rfl : x14 = xs 1 := ex14
  refine lv_aload_n hx hb dL_law_175 rfl (lv_at hl 3 rfl) ?_
  refine lv_iload_n hx hb dL_law_176 rfl (lv_at hl 0 rfl) ?_
  refine lv_iconst (v := 2) hx hb dL_law_177 (by decide) ?_
  refine lv_iadd hx hb dL_law_178 ?_
  refine lv_topi (fun x15 ex15 => ?_)
  obtain rfl : x15 = 2 := ex15.trans (by decide +kernel)
  refine va_sld hx hb hX hbl hbA hS (show vp_in 2 6 from by unfold vp_in; decide) dL_law_179 ?_
  refine lv_topi (fun x16 ex16 => ?_)
  obtain rfl : x16 = xs 2 := ex16
  refine lv_aload_n hx hb dL_law_180 rfl (lv_at hl 3 rfl) ?_
  refine lv_iload_n hx hb dL_law_181 rfl (lv_at hl 0 rfl) ?_
  refine lv_iconst (v := 3) hx hb dL_law_182 (by decide) ?_
  refine lv_iadd hx hb dL_law_183 ?_
  refine lv_topi (fun x17 ex17 => ?_)
  obtain rfl : x17 = 3 := ex17.trans (by decide +kernel)
  refine va_sld hx hb hX hbl hbA hS (show vp_in 3 6 from by unfold vp_in; decide) dL_law_184 ?_
  refine lv_topi (fun x18 ex18 => ?_)
  obtain rfl : x18 = xs 3 := ex18
  refine lv_aload_n hx hb dL_law_185 rfl (lv_at hl 3 rfl) ?_
  refine lv_iload_n hx hb dL_law_186 rfl (lv_at hl 0 rfl) ?_
  refine lv_iconst (v := 4) hx hb dL_law_187 (by decide) ?_
  refine lv_iadd hx hb dL_law_188 ?_
  refine lv_topi (fun x19 ex19 => ?_)
  obtain rfl : x19 = 4 := ex19.trans (by decide +kernel)
  refine va_sld hx hb hX hbl hbA hS (show vp_in 4 6 from by unfold vp_in; decide) dL_law_189 ?_
  refine lv_topi (fun x20 ex20 => ?_)
  obtain rfl : x20 = xs 4 := ex20
  refine lv_aload_n hx hb dL_law_190 rfl (lv_at hl 3 rfl) ?_
  refine lv_iload_n hx hb dL_law_191 rfl (lv_at hl 0 rfl) ?_
  refine lv_iconst (v := 5) hx hb dL_law_192 (by decide) ?_
  refine lv_iadd hx hb dL_law_193 ?_
  refine lv_topi (fun x21 ex21 => ?_)
  obtain rfl : x21 = 5 := ex21.trans (by decide +kernel)
  refine va_sld hx hb hX hbl hbA hS (show vp_in 5 6 from by unfold vp_in; decide) dL_law_194 ?_
  refine lv_topi (fun x22 ex22 => ?_)
  obtain rfl : x22 = xs 5 := ex22
  have hPc := hP.sub (ws' := [(h1, .inr (12, mO q)), (q 0, .inl (E.2 3, 800, .inl (fun _ => 0)))]) [0, 1] rfl
  have hDc := hD.sub (ws' := [(h1, .inr (12, mO q)), (q 0, .inl (E.2 3, 800, .inl (fun _ => 0)))]) [0, 1] (by decide) rfl
  have hFc := va_free (wc := [(h1, .inr (12, mO q)), (q 0, .inl (E.2 3, 800, .inl (fun _ => 0)))]) hD hS hA [0, 1] rfl
  refine va_calli (va_runV (As := [.int (xs 1), .int (xs 2), .int (xs 3), .int (xs 4), .int (xs 5)]) (rest := [.int r11]) ⟨hx, hb, hml, hown, hts⟩ (c_X12_feed l E h1 q (xs 1) (xs 2) (xs 3) (xs 4) (xs 5) H.size ) (cwV 5 hts gL_law_X12_feed rfl rfl rfl (by decide +kernel) ⟨Nat.le_of_ble_eq_true rfl, Nat.le_of_ble_eq_true rfl⟩) ⟨pcW_blind, va_recv hK hPc (ci := 12) (q0 := 0) rfl rfl, (pcW_pre hPc hkn hDc hst hS hFc)⟩ rfl rfl hl.1 rfl (lv_room (Nat.le_of_ble_eq_true rfl)) dL_law_195 ⟨Nat.le_of_ble_eq_true rfl, Nat.le_of_ble_eq_true rfl⟩) hS (fun q _ h => hFc q h) hFc (fun r23 u t H1 locs ht hvm hw24 hB hz1 hk1 hS => ?_)
  obtain ⟨hP1, hD1⟩ := hB
  rw [ht] at hP1
  try dsimp only at hw24
  obtain ⟨hP, hD⟩ := va_join (wr := []) (w1 := []) hP hD [0, 1] [] rfl rfl (by decide) (by decide) hk1 hFc hP1 hD1
  generalize H1 = H at hP hS ⊢
  have hP : va_P E.1 vwCl [] H := hP
  have hD : va_D A [] := hD
  refine lv_icmp_eq (tgt := 1029) hx hb dL_law_198 (by decide) (fun c9 => ?_) (fun c9 => absurd c9 (fun h => h (hw12.trans hw24.symm)))
  exact law_end l C0 hA hbA hAs _ _ hS _ _ _ (lv_sub hl [0, 1, 2, 3] rfl)
set_option maxHeartbeats 4000000 in
set_option maxRecDepth 100000 in
theorem op_end {p : Program} {e : Env} {s : State} {m : MethodId} {below : List Frame} {meth : Method} {c : Code} (l : Launch) {b : Nat} {xs : Nat → Int32} (C0 : lw_At p s m meth c b 6 xs) {A : Nat → Prop} (hA : ∀ q : Nat, s.heap.size ≤ q → A q) (hbA : ¬ A b) (hAs : ∀ q : Nat, A q → s.heap.size ≤ q) (E : vE) (hkn : kn E s) (hst : st A s s.heap) (x0 h1 : Nat) (tp : Nat) (rd : Nat) (se : Nat) (ba : Nat) (of : Nat) (pl : Nat) (sr : Nat) (sc : Nat) (by_ : Nat) (q : Nat → Nat) (H : Heap) (locs : List Loc) (hP : va_P E.1 vwCl [(x0, .inr (11, [.ref tp, .ref rd, .ref se, .ref ba, .ref of, .ref pl, .ref sr, .ref sc, .int 0])), (tp, .inr (9, [.ref by_, .int 0])), (h1, .inr (12, mO q))] H) (hD : va_D A [(x0, .inr (11, [.ref tp, .ref rd, .ref se, .ref ba, .ref of, .ref pl, .ref sr, .ref sc, .int 0])), (tp, .inr (9, [.ref by_, .int 0])), (h1, .inr (12, mO q))]) (hS : va_S A s.heap H locs) (ls : Array Slot) (hl : lv_has ls 4 [(3, .int 0), (2, .ref h1), (1, .ref x0), (0, .ref b)]) : W p l e room_1 s m #[Value.ref b] below meth c H locs 600000 7302249 (lw_Z below #[Value.ref b] s) (F0 m 203 ls []) := by
  obtain ⟨hx, hb, hr, hml, hown0, hts0, hX, hbl, hlocks, hgv⟩ := id C0
  have hown : s.vm.findClass RL = some m.cls := hown0
  have hts : ∀ w ∈ wsL_law, w.before #[Value.ref b] s = true := fun w h => hts0 w (wsL_law_in w h)
  have hK := hkn.1
  refine lv_aload_n hx hb dL_law_203 rfl (lv_at hl 2 rfl) ?_
  refine lv_aload_n hx hb dL_law_204 rfl (lv_at hl 3 rfl) ?_
  refine lv_iload_n hx hb dL_law_205 rfl (lv_at hl 0 rfl) ?_
  refine lv_iconst (v := 1) hx hb dL_law_206 (by decide) ?_
  refine lv_iadd hx hb dL_law_207 ?_
  refine lv_topi (fun x1 ex1 => ?_)
  obtain rfl : x1 = 1 := ex1.trans (by decide +kernel)
  refine va_sld hx hb hX hbl hbA hS (show vp_in 1 6 from by unfold vp_in; decide) dL_law_208 ?_
  refine lv_topi (fun x2 ex2 => ?_)
  obtain rfl : x2 = xs 1 := ex2
  have hPc := hP.sub (ws' := [(x0, .inr (11, [.ref tp, .ref rd, .ref se, .ref ba, .ref of, .ref pl, .ref sr, .ref sc, .int 0])), (tp, .inr (9, [.ref by_, .int 0]))]) [0, 1] rfl
  have hDc := hD.sub (ws' := [(x0, .inr (11, [.ref tp, .ref rd, .ref se, .ref ba, .ref of, .ref pl, .ref sr, .ref sc, .int 0])), (tp, .inr (9, [.ref by_, .int 0]))]) [0, 1] (by decide) rfl
  have hFc := va_free (wc := [(x0, .inr (11, [.ref tp, .ref rd, .ref se, .ref ba, .ref of, .ref pl, .ref sr, .ref sc, .int 0])), (tp, .inr (9, [.ref by_, .int 0]))]) hD hS hA [0, 1] rfl
  refine va_calli (va_runV (As := [.int (xs 1)]) (rest := []) ⟨hx, hb, hml, hown, hts⟩ (c_X11_end l E x0 tp rd se ba of pl sr sc by_ (xs 1) H.size ) (cwV 1 hts gL_law_X11_end rfl rfl rfl (by decide +kernel) ⟨Nat.le_of_ble_eq_true rfl, Nat.le_of_ble_eq_true rfl⟩) ⟨pcW_blind, va_recv hK hPc (ci := 11) (q0 := 0) rfl rfl, (pcW_pre hPc hkn hDc hst hS hFc)⟩ rfl rfl hl.1 rfl (lv_room (Nat.le_of_ble_eq_true rfl)) dL_law_209 ⟨Nat.le_of_ble_eq_true rfl, Nat.le_of_ble_eq_true rfl⟩) hS (fun q _ h => hFc q h) hFc (fun r3 u t H1 locs ht hvm hw4 hB hz1 hk1 hS => ?_)
  obtain ⟨hP1, hD1⟩ := hB
  rw [ht] at hP1
  try dsimp only at hw4
  obtain ⟨hP, hD⟩ := va_join (wr := [(h1, .inr (12, mO q))]) (w1 := []) hP hD [0, 1] [2] rfl rfl (by decide) (by decide) hk1 hFc hP1 hD1
  generalize H1 = H at hP hS ⊢
  have hP : va_P E.1 vwCl [(h1, .inr (12, mO q))] H := hP
  have hD : va_D A [(h1, .inr (12, mO q))] := hD
  refine lv_aload_n hx hb dL_law_212 rfl (lv_at hl 1 rfl) ?_
  refine lv_aload_n hx hb dL_law_213 rfl (lv_at hl 3 rfl) ?_
  refine lv_iload_n hx hb dL_law_214 rfl (lv_at hl 0 rfl) ?_
  refine lv_iconst (v := 1) hx hb dL_law_215 (by decide) ?_
  refine lv_iadd hx hb dL_law_216 ?_
  refine lv_topi (fun x5 ex5 => ?_)
  obtain rfl : x5 = 1 := ex5.trans (by decide +kernel)
  refine va_sld hx hb hX hbl hbA hS (show vp_in 1 6 from by unfold vp_in; decide) dL_law_217 ?_
  refine lv_topi (fun x6 ex6 => ?_)
  obtain rfl : x6 = xs 1 := ex6
  have hPc := hP.sub (ws' := [(h1, .inr (12, mO q))]) [0] rfl
  have hDc := hD.sub (ws' := [(h1, .inr (12, mO q))]) [0] (by decide) rfl
  have hFc := va_free (wc := [(h1, .inr (12, mO q))]) hD hS hA [0] rfl
  refine va_calli (va_runV (As := [.int (xs 1)]) (rest := [.int r3]) ⟨hx, hb, hml, hown, hts⟩ (c_X12_end l E h1 q (xs 1) H.size ) (cwV 1 hts gL_law_X12_end rfl rfl rfl (by decide +kernel) ⟨Nat.le_of_ble_eq_true rfl, Nat.le_of_ble_eq_true rfl⟩) ⟨pcW_blind, va_recv hK hPc (ci := 12) (q0 := 0) rfl rfl, (pcW_pre hPc hkn hDc hst hS hFc)⟩ rfl rfl hl.1 rfl (lv_room (Nat.le_of_ble_eq_true rfl)) dL_law_218 ⟨Nat.le_of_ble_eq_true rfl, Nat.le_of_ble_eq_true rfl⟩) hS (fun q _ h => hFc q h) hFc (fun r7 u t H1 locs ht hvm hw8 hB hz1 hk1 hS => ?_)
  obtain ⟨hP1, hD1⟩ := hB
  rw [ht] at hP1
  try dsimp only at hw8
  obtain ⟨hP, hD⟩ := va_join (wr := []) (w1 := []) hP hD [0] [] rfl rfl (by decide) (by decide) hk1 hFc hP1 hD1
  generalize H1 = H at hP hS ⊢
  have hP : va_P E.1 vwCl [] H := hP
  have hD : va_D A [] := hD
  refine lv_icmp_eq (tgt := 1029) hx hb dL_law_221 (by decide) (fun c9 => ?_) (fun c9 => absurd c9 (fun h => h (hw4.trans hw8.symm)))
  exact law_end l C0 hA hbA hAs _ _ hS _ _ _ (lv_sub hl [0, 1, 2, 3] rfl)
set_option maxHeartbeats 4000000 in
set_option maxRecDepth 100000 in
theorem op_wind {p : Program} {e : Env} {s : State} {m : MethodId} {below : List Frame} {meth : Method} {c : Code} (l : Launch) {b : Nat} {xs : Nat → Int32} (C0 : lw_At p s m meth c b 6 xs) {A : Nat → Prop} (hA : ∀ q : Nat, s.heap.size ≤ q → A q) (hbA : ¬ A b) (hAs : ∀ q : Nat, A q → s.heap.size ≤ q) (E : vE) (hkn : kn E s) (hst : st A s s.heap) (x0 h1 : Nat) (tp : Nat) (rd : Nat) (se : Nat) (ba : Nat) (of : Nat) (pl : Nat) (sr : Nat) (sc : Nat) (wi : Nat) (po : Nat) (q : Nat → Nat) (H : Heap) (locs : List Loc) (hP : va_P E.1 vwCl [(x0, .inr (11, [.ref tp, .ref rd, .ref se, .ref ba, .ref of, .ref pl, .ref sr, .ref sc, .int 0])), (se, .inr (8, [.ref wi, .ref po])), (wi, .inl (E.2 0, 288, .inl (fun _ => 0))), (h1, .inr (12, mO q)), (q 17, .inl (E.2 0, 288, .inl (fun _ => 0))), (q 18, .inl (E.2 0, 288, .inl (fun _ => 0)))] H) (hD : va_D A [(x0, .inr (11, [.ref tp, .ref rd, .ref se, .ref ba, .ref of, .ref pl, .ref sr, .ref sc, .int 0])), (se, .inr (8, [.ref wi, .ref po])), (wi, .inl (E.2 0, 288, .inl (fun _ => 0))), (h1, .inr (12, mO q)), (q 17, .inl (E.2 0, 288, .inl (fun _ => 0))), (q 18, .inl (E.2 0, 288, .inl (fun _ => 0)))]) (hS : va_S A s.heap H locs) (ls : Array Slot) (hl : lv_has ls 4 [(3, .int 0), (2, .ref h1), (1, .ref x0), (0, .ref b)]) : W p l e room_1 s m #[Value.ref b] below meth c H locs 600000 7302249 (lw_Z below #[Value.ref b] s) (F0 m 226 ls []) := by
  obtain ⟨hx, hb, hr, hml, hown0, hts0, hX, hbl, hlocks, hgv⟩ := id C0
  have hown : s.vm.findClass RL = some m.cls := hown0
  have hts : ∀ w ∈ wsL_law, w.before #[Value.ref b] s = true := fun w h => hts0 w (wsL_law_in w h)
  have hK := hkn.1
  refine lv_aload_n hx hb dL_law_226 rfl (lv_at hl 2 rfl) ?_
  refine lv_aload_n hx hb dL_law_227 rfl (lv_at hl 3 rfl) ?_
  refine lv_iload_n hx hb dL_law_228 rfl (lv_at hl 0 rfl) ?_
  refine lv_iconst (v := 1) hx hb dL_law_229 (by decide) ?_
  refine lv_iadd hx hb dL_law_230 ?_
  refine lv_topi (fun x1 ex1 => ?_)
  obtain rfl : x1 = 1 := ex1.trans (by decide +kernel)
  refine va_sld hx hb hX hbl hbA hS (show vp_in 1 6 from by unfold vp_in; decide) dL_law_231 ?_
  refine lv_topi (fun x2 ex2 => ?_)
  obtain rfl : x2 = xs 1 := ex2
  refine lv_aload_n hx hb dL_law_232 rfl (lv_at hl 3 rfl) ?_
  refine lv_iload_n hx hb dL_law_233 rfl (lv_at hl 0 rfl) ?_
  refine lv_iconst (v := 2) hx hb dL_law_234 (by decide) ?_
  refine lv_iadd hx hb dL_law_235 ?_
  refine lv_topi (fun x3 ex3 => ?_)
  obtain rfl : x3 = 2 := ex3.trans (by decide +kernel)
  refine va_sld hx hb hX hbl hbA hS (show vp_in 2 6 from by unfold vp_in; decide) dL_law_236 ?_
  refine lv_topi (fun x4 ex4 => ?_)
  obtain rfl : x4 = xs 2 := ex4
  refine lv_aload_n hx hb dL_law_237 rfl (lv_at hl 3 rfl) ?_
  refine lv_iload_n hx hb dL_law_238 rfl (lv_at hl 0 rfl) ?_
  refine lv_iconst (v := 3) hx hb dL_law_239 (by decide) ?_
  refine lv_iadd hx hb dL_law_240 ?_
  refine lv_topi (fun x5 ex5 => ?_)
  obtain rfl : x5 = 3 := ex5.trans (by decide +kernel)
  refine va_sld hx hb hX hbl hbA hS (show vp_in 3 6 from by unfold vp_in; decide) dL_law_241 ?_
  refine lv_topi (fun x6 ex6 => ?_)
  obtain rfl : x6 = xs 3 := ex6
  refine lv_aload_n hx hb dL_law_242 rfl (lv_at hl 3 rfl) ?_
  refine lv_iload_n hx hb dL_law_243 rfl (lv_at hl 0 rfl) ?_
  refine lv_iconst (v := 4) hx hb dL_law_244 (by decide) ?_
  refine lv_iadd hx hb dL_law_245 ?_
  refine lv_topi (fun x7 ex7 => ?_)
  obtain rfl : x7 = 4 := ex7.trans (by decide +kernel)
  refine va_sld hx hb hX hbl hbA hS (show vp_in 4 6 from by unfold vp_in; decide) dL_law_246 ?_
  refine lv_topi (fun x8 ex8 => ?_)
  obtain rfl : x8 = xs 4 := ex8
  have hPc := hP.sub (ws' := [(x0, .inr (11, [.ref tp, .ref rd, .ref se, .ref ba, .ref of, .ref pl, .ref sr, .ref sc, .int 0])), (se, .inr (8, [.ref wi, .ref po])), (wi, .inl (E.2 0, 288, .inl (fun _ => 0)))]) [0, 1, 2] rfl
  have hDc := hD.sub (ws' := [(x0, .inr (11, [.ref tp, .ref rd, .ref se, .ref ba, .ref of, .ref pl, .ref sr, .ref sc, .int 0])), (se, .inr (8, [.ref wi, .ref po])), (wi, .inl (E.2 0, 288, .inl (fun _ => 0)))]) [0, 1, 2] (by decide) rfl
  have hFc := va_free (wc := [(x0, .inr (11, [.ref tp, .ref rd, .ref se, .ref ba, .ref of, .ref pl, .ref sr, .ref sc, .int 0])), (se, .inr (8, [.ref wi, .ref po])), (wi, .inl (E.2 0, 288, .inl (fun _ => 0)))]) hD hS hA [0, 1, 2] rfl
  refine va_calli (va_runV (As := [.int (xs 1), .int (xs 2), .int (xs 3), .int (xs 4)]) (rest := []) ⟨hx, hb, hml, hown, hts⟩ (c_X11_wind l E x0 tp rd se ba of pl sr sc wi po (xs 1) (xs 2) (xs 3) (xs 4) H.size ) (cwV 4 hts gL_law_X11_wind rfl rfl rfl (by decide +kernel) ⟨Nat.le_of_ble_eq_true rfl, Nat.le_of_ble_eq_true rfl⟩) ⟨pcW_blind, va_recv hK hPc (ci := 11) (q0 := 0) rfl rfl, (pcW_pre hPc hkn hDc hst hS hFc)⟩ rfl rfl hl.1 rfl (lv_room (Nat.le_of_ble_eq_true rfl)) dL_law_247 ⟨Nat.le_of_ble_eq_true rfl, Nat.le_of_ble_eq_true rfl⟩) hS (fun q _ h => hFc q h) hFc (fun r9 u t H1 locs ht hvm hw10 hB hz1 hk1 hS => ?_)
  obtain ⟨hP1, hD1⟩ := hB
  rw [ht] at hP1
  try dsimp only at hw10
  obtain ⟨hP, hD⟩ := va_join (wr := [(h1, .inr (12, mO q)), (q 17, .inl (E.2 0, 288, .inl (fun _ => 0))), (q 18, .inl (E.2 0, 288, .inl (fun _ => 0)))]) (w1 := []) hP hD [0, 1, 2] [3, 4, 5] rfl rfl (by decide) (by decide) hk1 hFc hP1 hD1
  generalize H1 = H at hP hS ⊢
  have hP : va_P E.1 vwCl [(h1, .inr (12, mO q)), (q 17, .inl (E.2 0, 288, .inl (fun _ => 0))), (q 18, .inl (E.2 0, 288, .inl (fun _ => 0)))] H := hP
  have hD : va_D A [(h1, .inr (12, mO q)), (q 17, .inl (E.2 0, 288, .inl (fun _ => 0))), (q 18, .inl (E.2 0, 288, .inl (fun _ => 0)))] := hD
  refine lv_aload_n hx hb dL_law_250 rfl (lv_at hl 1 rfl) ?_
  refine lv_aload_n hx hb dL_law_251 rfl (lv_at hl 3 rfl) ?_
  refine lv_iload_n hx hb dL_law_252 rfl (lv_at hl 0 rfl) ?_
  refine lv_iconst (v := 1) hx hb dL_law_253 (by decide) ?_
  refine lv_iadd hx hb dL_law_254 ?_
  refine lv_topi (fun x11 ex11 => ?_)
  obtain rfl : x11 = 1 := ex11.trans (by decide +kernel)
  refine va_sld hx hb hX hbl hbA hS (show vp_in 1 6 from by unfold vp_in; decide) dL_law_255 ?_
  refine lv_topi (fun x12 ex12 => ?_)
  obtain rfl : x12 = xs 1 := ex12
  refine lv_aload_n hx hb dL_law_256 rfl (lv_at hl 3 rfl) ?_
  refine lv_iload_n hx hb dL_law_257 rfl (lv_at hl 0 rfl) ?_
  refine lv_iconst (v := 2) hx hb dL_law_258 (by decide) ?_
  refine lv_iadd hx hb dL_law_259 ?_
  refine lv_topi (fun x13 ex13 => ?_)
  obtain rfl : x13 = 2 := ex13.trans (by decide +kernel)
  refine va_sld hx hb hX hbl hbA hS (show vp_in 2 6 from by unfold vp_in; decide) dL_law_260 ?_
  refine lv_topi (fun x14 ex14 => ?_)
  obtain rfl : x14 = xs 2 := ex14
  refine lv_aload_n hx hb dL_law_261 rfl (lv_at hl 3 rfl) ?_
  refine lv_iload_n hx hb dL_law_262 rfl (lv_at hl 0 rfl) ?_
  refine lv_iconst (v := 3) hx hb dL_law_263 (by decide) ?_
  refine lv_iadd hx hb dL_law_264 ?_
  refine lv_topi (fun x15 ex15 => ?_)
  obtain rfl : x15 = 3 := ex15.trans (by decide +kernel)
  refine va_sld hx hb hX hbl hbA hS (show vp_in 3 6 from by unfold vp_in; decide) dL_law_265 ?_
  refine lv_topi (fun x16 ex16 => ?_)
  obtain rfl : x16 = xs 3 := ex16
  refine lv_aload_n hx hb dL_law_266 rfl (lv_at hl 3 rfl) ?_
  refine lv_iload_n hx hb dL_law_267 rfl (lv_at hl 0 rfl) ?_
  refine lv_iconst (v := 4) hx hb dL_law_268 (by decide) ?_
  refine lv_iadd hx hb dL_law_269 ?_
  refine lv_topi (fun x17 ex17 => ?_)
  obtain rfl : x17 = 4 := ex17.trans (by decide +kernel)
  refine va_sld hx hb hX hbl hbA hS (show vp_in 4 6 from by unfold vp_in; decide) dL_law_270 ?_
  refine lv_topi (fun x18 ex18 => ?_)
  obtain rfl : x18 = xs 4 := ex18
  have hPc := hP.sub (ws' := [(h1, .inr (12, mO q)), (q 17, .inl (E.2 0, 288, .inl (fun _ => 0))), (q 18, .inl (E.2 0, 288, .inl (fun _ => 0)))]) [0, 1, 2] rfl
  have hDc := hD.sub (ws' := [(h1, .inr (12, mO q)), (q 17, .inl (E.2 0, 288, .inl (fun _ => 0))), (q 18, .inl (E.2 0, 288, .inl (fun _ => 0)))]) [0, 1, 2] (by decide) rfl
  have hFc := va_free (wc := [(h1, .inr (12, mO q)), (q 17, .inl (E.2 0, 288, .inl (fun _ => 0))), (q 18, .inl (E.2 0, 288, .inl (fun _ => 0)))]) hD hS hA [0, 1, 2] rfl
  refine va_calli (va_runV (As := [.int (xs 1), .int (xs 2), .int (xs 3), .int (xs 4)]) (rest := [.int r9]) ⟨hx, hb, hml, hown, hts⟩ (c_X12_wind l E h1 q (xs 1) (xs 2) (xs 3) (xs 4) H.size ) (cwV 4 hts gL_law_X12_wind rfl rfl rfl (by decide +kernel) ⟨Nat.le_of_ble_eq_true rfl, Nat.le_of_ble_eq_true rfl⟩) ⟨pcW_blind, va_recv hK hPc (ci := 12) (q0 := 0) rfl rfl, (pcW_pre hPc hkn hDc hst hS hFc)⟩ rfl rfl hl.1 rfl (lv_room (Nat.le_of_ble_eq_true rfl)) dL_law_271 ⟨Nat.le_of_ble_eq_true rfl, Nat.le_of_ble_eq_true rfl⟩) hS (fun q _ h => hFc q h) hFc (fun r19 u t H1 locs ht hvm hw20 hB hz1 hk1 hS => ?_)
  obtain ⟨hP1, hD1⟩ := hB
  rw [ht] at hP1
  try dsimp only at hw20
  obtain ⟨hP, hD⟩ := va_join (wr := []) (w1 := []) hP hD [0, 1, 2] [] rfl rfl (by decide) (by decide) hk1 hFc hP1 hD1
  generalize H1 = H at hP hS ⊢
  have hP : va_P E.1 vwCl [] H := hP
  have hD : va_D A [] := hD
  refine lv_icmp_eq (tgt := 1029) hx hb dL_law_274 (by decide) (fun c9 => ?_) (fun c9 => absurd c9 (fun h => h (hw10.trans hw20.symm)))
  exact law_end l C0 hA hbA hAs _ _ hS _ _ _ (lv_sub hl [0, 1, 2, 3] rfl)
set_option maxHeartbeats 4000000 in
set_option maxRecDepth 100000 in
theorem op_port {p : Program} {e : Env} {s : State} {m : MethodId} {below : List Frame} {meth : Method} {c : Code} (l : Launch) {b : Nat} {xs : Nat → Int32} (C0 : lw_At p s m meth c b 6 xs) {A : Nat → Prop} (hA : ∀ q : Nat, s.heap.size ≤ q → A q) (hbA : ¬ A b) (hAs : ∀ q : Nat, A q → s.heap.size ≤ q) (E : vE) (hkn : kn E s) (hst : st A s s.heap) (x0 h1 : Nat) (tp : Nat) (rd : Nat) (se : Nat) (ba : Nat) (of : Nat) (pl : Nat) (sr : Nat) (sc : Nat) (wi : Nat) (po : Nat) (q : Nat → Nat) (H : Heap) (locs : List Loc) (hP : va_P E.1 vwCl [(x0, .inr (11, [.ref tp, .ref rd, .ref se, .ref ba, .ref of, .ref pl, .ref sr, .ref sc, .int 0])), (se, .inr (8, [.ref wi, .ref po])), (po, .inl (E.2 0, 10, .inl (fun _ => 0))), (h1, .inr (12, mO q)), (q 19, .inl (E.2 0, 10, .inl (fun _ => 0)))] H) (hD : va_D A [(x0, .inr (11, [.ref tp, .ref rd, .ref se, .ref ba, .ref of, .ref pl, .ref sr, .ref sc, .int 0])), (se, .inr (8, [.ref wi, .ref po])), (po, .inl (E.2 0, 10, .inl (fun _ => 0))), (h1, .inr (12, mO q)), (q 19, .inl (E.2 0, 10, .inl (fun _ => 0)))]) (hS : va_S A s.heap H locs) (ls : Array Slot) (hl : lv_has ls 4 [(3, .int 0), (2, .ref h1), (1, .ref x0), (0, .ref b)]) : W p l e room_1 s m #[Value.ref b] below meth c H locs 600000 7302249 (lw_Z below #[Value.ref b] s) (F0 m 279 ls []) := by
  obtain ⟨hx, hb, hr, hml, hown0, hts0, hX, hbl, hlocks, hgv⟩ := id C0
  have hown : s.vm.findClass RL = some m.cls := hown0
  have hts : ∀ w ∈ wsL_law, w.before #[Value.ref b] s = true := fun w h => hts0 w (wsL_law_in w h)
  have hK := hkn.1
  refine lv_aload_n hx hb dL_law_279 rfl (lv_at hl 2 rfl) ?_
  refine lv_aload_n hx hb dL_law_280 rfl (lv_at hl 3 rfl) ?_
  refine lv_iload_n hx hb dL_law_281 rfl (lv_at hl 0 rfl) ?_
  refine lv_iconst (v := 1) hx hb dL_law_282 (by decide) ?_
  refine lv_iadd hx hb dL_law_283 ?_
  refine lv_topi (fun x1 ex1 => ?_)
  obtain rfl : x1 = 1 := ex1.trans (by decide +kernel)
  refine va_sld hx hb hX hbl hbA hS (show vp_in 1 6 from by unfold vp_in; decide) dL_law_284 ?_
  refine lv_topi (fun x2 ex2 => ?_)
  obtain rfl : x2 = xs 1 := ex2
  refine lv_aload_n hx hb dL_law_285 rfl (lv_at hl 3 rfl) ?_
  refine lv_iload_n hx hb dL_law_286 rfl (lv_at hl 0 rfl) ?_
  refine lv_iconst (v := 2) hx hb dL_law_287 (by decide) ?_
  refine lv_iadd hx hb dL_law_288 ?_
  refine lv_topi (fun x3 ex3 => ?_)
  obtain rfl : x3 = 2 := ex3.trans (by decide +kernel)
  refine va_sld hx hb hX hbl hbA hS (show vp_in 2 6 from by unfold vp_in; decide) dL_law_289 ?_
  refine lv_topi (fun x4 ex4 => ?_)
  obtain rfl : x4 = xs 2 := ex4
  have hPc := hP.sub (ws' := [(x0, .inr (11, [.ref tp, .ref rd, .ref se, .ref ba, .ref of, .ref pl, .ref sr, .ref sc, .int 0])), (se, .inr (8, [.ref wi, .ref po])), (po, .inl (E.2 0, 10, .inl (fun _ => 0)))]) [0, 1, 2] rfl
  have hDc := hD.sub (ws' := [(x0, .inr (11, [.ref tp, .ref rd, .ref se, .ref ba, .ref of, .ref pl, .ref sr, .ref sc, .int 0])), (se, .inr (8, [.ref wi, .ref po])), (po, .inl (E.2 0, 10, .inl (fun _ => 0)))]) [0, 1, 2] (by decide) rfl
  have hFc := va_free (wc := [(x0, .inr (11, [.ref tp, .ref rd, .ref se, .ref ba, .ref of, .ref pl, .ref sr, .ref sc, .int 0])), (se, .inr (8, [.ref wi, .ref po])), (po, .inl (E.2 0, 10, .inl (fun _ => 0)))]) hD hS hA [0, 1, 2] rfl
  refine va_calli (va_runV (As := [.int (xs 1), .int (xs 2)]) (rest := []) ⟨hx, hb, hml, hown, hts⟩ (c_X11_port l E x0 tp rd se ba of pl sr sc wi po (xs 1) (xs 2) H.size ) (cwV 2 hts gL_law_X11_port rfl rfl rfl (by decide +kernel) ⟨Nat.le_of_ble_eq_true rfl, Nat.le_of_ble_eq_true rfl⟩) ⟨pcW_blind, va_recv hK hPc (ci := 11) (q0 := 0) rfl rfl, (pcW_pre hPc hkn hDc hst hS hFc)⟩ rfl rfl hl.1 rfl (lv_room (Nat.le_of_ble_eq_true rfl)) dL_law_290 ⟨Nat.le_of_ble_eq_true rfl, Nat.le_of_ble_eq_true rfl⟩) hS (fun q _ h => hFc q h) hFc (fun r5 u t H1 locs ht hvm hw6 hB hz1 hk1 hS => ?_)
  obtain ⟨hP1, hD1⟩ := hB
  rw [ht] at hP1
  try dsimp only at hw6
  obtain ⟨hP, hD⟩ := va_join (wr := [(h1, .inr (12, mO q)), (q 19, .inl (E.2 0, 10, .inl (fun _ => 0)))]) (w1 := []) hP hD [0, 1, 2] [3, 4] rfl rfl (by decide) (by decide) hk1 hFc hP1 hD1
  generalize H1 = H at hP hS ⊢
  have hP : va_P E.1 vwCl [(h1, .inr (12, mO q)), (q 19, .inl (E.2 0, 10, .inl (fun _ => 0)))] H := hP
  have hD : va_D A [(h1, .inr (12, mO q)), (q 19, .inl (E.2 0, 10, .inl (fun _ => 0)))] := hD
  refine lv_aload_n hx hb dL_law_293 rfl (lv_at hl 1 rfl) ?_
  refine lv_aload_n hx hb dL_law_294 rfl (lv_at hl 3 rfl) ?_
  refine lv_iload_n hx hb dL_law_295 rfl (lv_at hl 0 rfl) ?_
  refine lv_iconst (v := 1) hx hb dL_law_296 (by decide) ?_
  refine lv_iadd hx hb dL_law_297 ?_
  refine lv_topi (fun x7 ex7 => ?_)
  obtain rfl : x7 = 1 := ex7.trans (by decide +kernel)
  refine va_sld hx hb hX hbl hbA hS (show vp_in 1 6 from by unfold vp_in; decide) dL_law_298 ?_
  refine lv_topi (fun x8 ex8 => ?_)
  obtain rfl : x8 = xs 1 := ex8
  refine lv_aload_n hx hb dL_law_299 rfl (lv_at hl 3 rfl) ?_
  refine lv_iload_n hx hb dL_law_300 rfl (lv_at hl 0 rfl) ?_
  refine lv_iconst (v := 2) hx hb dL_law_301 (by decide) ?_
  refine lv_iadd hx hb dL_law_302 ?_
  refine lv_topi (fun x9 ex9 => ?_)
  obtain rfl : x9 = 2 := ex9.trans (by decide +kernel)
  refine va_sld hx hb hX hbl hbA hS (show vp_in 2 6 from by unfold vp_in; decide) dL_law_303 ?_
  refine lv_topi (fun x10 ex10 => ?_)
  obtain rfl : x10 = xs 2 := ex10
  have hPc := hP.sub (ws' := [(h1, .inr (12, mO q)), (q 19, .inl (E.2 0, 10, .inl (fun _ => 0)))]) [0, 1] rfl
  have hDc := hD.sub (ws' := [(h1, .inr (12, mO q)), (q 19, .inl (E.2 0, 10, .inl (fun _ => 0)))]) [0, 1] (by decide) rfl
  have hFc := va_free (wc := [(h1, .inr (12, mO q)), (q 19, .inl (E.2 0, 10, .inl (fun _ => 0)))]) hD hS hA [0, 1] rfl
  refine va_calli (va_runV (As := [.int (xs 1), .int (xs 2)]) (rest := [.int r5]) ⟨hx, hb, hml, hown, hts⟩ (c_X12_port l E h1 q (xs 1) (xs 2) H.size ) (cwV 2 hts gL_law_X12_port rfl rfl rfl (by decide +kernel) ⟨Nat.le_of_ble_eq_true rfl, Nat.le_of_ble_eq_true rfl⟩) ⟨pcW_blind, va_recv hK hPc (ci := 12) (q0 := 0) rfl rfl, (pcW_pre hPc hkn hDc hst hS hFc)⟩ rfl rfl hl.1 rfl (lv_room (Nat.le_of_ble_eq_true rfl)) dL_law_304 ⟨Nat.le_of_ble_eq_true rfl, Nat.le_of_ble_eq_true rfl⟩) hS (fun q _ h => hFc q h) hFc (fun r11 u t H1 locs ht hvm hw12 hB hz1 hk1 hS => ?_)
  obtain ⟨hP1, hD1⟩ := hB
  rw [ht] at hP1
  try dsimp only at hw12
  obtain ⟨hP, hD⟩ := va_join (wr := []) (w1 := []) hP hD [0, 1] [] rfl rfl (by decide) (by decide) hk1 hFc hP1 hD1
  generalize H1 = H at hP hS ⊢
  have hP : va_P E.1 vwCl [] H := hP
  have hD : va_D A [] := hD
  refine lv_icmp_eq (tgt := 1029) hx hb dL_law_307 (by decide) (fun c9 => ?_) (fun c9 => absurd c9 (fun h => h (hw6.trans hw12.symm)))
  exact law_end l C0 hA hbA hAs _ _ hS _ _ _ (lv_sub hl [0, 1, 2, 3] rfl)
set_option maxHeartbeats 4000000 in
set_option maxRecDepth 100000 in
theorem op_speed {p : Program} {e : Env} {s : State} {m : MethodId} {below : List Frame} {meth : Method} {c : Code} (l : Launch) {b : Nat} {xs : Nat → Int32} (C0 : lw_At p s m meth c b 6 xs) {A : Nat → Prop} (hA : ∀ q : Nat, s.heap.size ≤ q → A q) (hbA : ¬ A b) (hAs : ∀ q : Nat, A q → s.heap.size ≤ q) (E : vE) (hkn : kn E s) (hst : st A s s.heap) (x0 h1 : Nat) (tp : Nat) (rd : Nat) (se : Nat) (ba : Nat) (of : Nat) (pl : Nat) (sr : Nat) (sc : Nat) (bo : Nat) (sp : Nat) (pa : Nat) (ru : Nat) (co : Nat) (tr : Nat) (fb : Nat → Option Nat) (q : Nat → Nat) (hfb : inR (xs 1) 0 5 = true → fb (xs 1).toNatClampNeg = some bo) (H : Heap) (locs : List Loc) (hP : va_P E.1 vwCl [(x0, .inr (11, [.ref tp, .ref rd, .ref se, .ref ba, .ref of, .ref pl, .ref sr, .ref sc, .int 0])), (ba, .inl (E.2 4, 6, .inr (.inr (.inr (.inr fb))))), (bo, .inr (0, [.ref sp, .ref pa, .int 0, .ref ru, .ref co, .ref tr])), (sp, .inl (E.2 0, 25, .inl (fun _ => 0))), (h1, .inr (12, mO q)), (q 20, .inl (E.2 0, 150, .inl (fun _ => 0)))] H) (hD : va_D A [(x0, .inr (11, [.ref tp, .ref rd, .ref se, .ref ba, .ref of, .ref pl, .ref sr, .ref sc, .int 0])), (ba, .inl (E.2 4, 6, .inr (.inr (.inr (.inr fb))))), (bo, .inr (0, [.ref sp, .ref pa, .int 0, .ref ru, .ref co, .ref tr])), (sp, .inl (E.2 0, 25, .inl (fun _ => 0))), (h1, .inr (12, mO q)), (q 20, .inl (E.2 0, 150, .inl (fun _ => 0)))]) (hS : va_S A s.heap H locs) (ls : Array Slot) (hl : lv_has ls 4 [(3, .int 0), (2, .ref h1), (1, .ref x0), (0, .ref b)]) : W p l e room_1 s m #[Value.ref b] below meth c H locs 600000 7302249 (lw_Z below #[Value.ref b] s) (F0 m 312 ls []) := by
  obtain ⟨hx, hb, hr, hml, hown0, hts0, hX, hbl, hlocks, hgv⟩ := id C0
  have hown : s.vm.findClass RL = some m.cls := hown0
  have hts : ∀ w ∈ wsL_law, w.before #[Value.ref b] s = true := fun w h => hts0 w (wsL_law_in w h)
  have hK := hkn.1
  refine lv_aload_n hx hb dL_law_312 rfl (lv_at hl 2 rfl) ?_
  refine lv_aload_n hx hb dL_law_313 rfl (lv_at hl 3 rfl) ?_
  refine lv_iload_n hx hb dL_law_314 rfl (lv_at hl 0 rfl) ?_
  refine lv_iconst (v := 1) hx hb dL_law_315 (by decide) ?_
  refine lv_iadd hx hb dL_law_316 ?_
  refine lv_topi (fun x1 ex1 => ?_)
  obtain rfl : x1 = 1 := ex1.trans (by decide +kernel)
  refine va_sld hx hb hX hbl hbA hS (show vp_in 1 6 from by unfold vp_in; decide) dL_law_317 ?_
  refine lv_topi (fun x2 ex2 => ?_)
  obtain rfl : x2 = xs 1 := ex2
  refine lv_aload_n hx hb dL_law_318 rfl (lv_at hl 3 rfl) ?_
  refine lv_iload_n hx hb dL_law_319 rfl (lv_at hl 0 rfl) ?_
  refine lv_iconst (v := 2) hx hb dL_law_320 (by decide) ?_
  refine lv_iadd hx hb dL_law_321 ?_
  refine lv_topi (fun x3 ex3 => ?_)
  obtain rfl : x3 = 2 := ex3.trans (by decide +kernel)
  refine va_sld hx hb hX hbl hbA hS (show vp_in 2 6 from by unfold vp_in; decide) dL_law_322 ?_
  refine lv_topi (fun x4 ex4 => ?_)
  obtain rfl : x4 = xs 2 := ex4
  refine lv_aload_n hx hb dL_law_323 rfl (lv_at hl 3 rfl) ?_
  refine lv_iload_n hx hb dL_law_324 rfl (lv_at hl 0 rfl) ?_
  refine lv_iconst (v := 3) hx hb dL_law_325 (by decide) ?_
  refine lv_iadd hx hb dL_law_326 ?_
  refine lv_topi (fun x5 ex5 => ?_)
  obtain rfl : x5 = 3 := ex5.trans (by decide +kernel)
  refine va_sld hx hb hX hbl hbA hS (show vp_in 3 6 from by unfold vp_in; decide) dL_law_327 ?_
  refine lv_topi (fun x6 ex6 => ?_)
  obtain rfl : x6 = xs 3 := ex6
  refine lv_aload_n hx hb dL_law_328 rfl (lv_at hl 3 rfl) ?_
  refine lv_iload_n hx hb dL_law_329 rfl (lv_at hl 0 rfl) ?_
  refine lv_iconst (v := 4) hx hb dL_law_330 (by decide) ?_
  refine lv_iadd hx hb dL_law_331 ?_
  refine lv_topi (fun x7 ex7 => ?_)
  obtain rfl : x7 = 4 := ex7.trans (by decide +kernel)
  refine va_sld hx hb hX hbl hbA hS (show vp_in 4 6 from by unfold vp_in; decide) dL_law_332 ?_
  refine lv_topi (fun x8 ex8 => ?_)
  obtain rfl : x8 = xs 4 := ex8
  have hPc := hP.sub (ws' := [(x0, .inr (11, [.ref tp, .ref rd, .ref se, .ref ba, .ref of, .ref pl, .ref sr, .ref sc, .int 0])), (ba, .inl (E.2 4, 6, .inr (.inr (.inr (.inr fb))))), (bo, .inr (0, [.ref sp, .ref pa, .int 0, .ref ru, .ref co, .ref tr])), (sp, .inl (E.2 0, 25, .inl (fun _ => 0)))]) [0, 1, 2, 3] rfl
  have hDc := hD.sub (ws' := [(x0, .inr (11, [.ref tp, .ref rd, .ref se, .ref ba, .ref of, .ref pl, .ref sr, .ref sc, .int 0])), (ba, .inl (E.2 4, 6, .inr (.inr (.inr (.inr fb))))), (bo, .inr (0, [.ref sp, .ref pa, .int 0, .ref ru, .ref co, .ref tr])), (sp, .inl (E.2 0, 25, .inl (fun _ => 0)))]) [0, 1, 2, 3] (by decide) rfl
  have hFc := va_free (wc := [(x0, .inr (11, [.ref tp, .ref rd, .ref se, .ref ba, .ref of, .ref pl, .ref sr, .ref sc, .int 0])), (ba, .inl (E.2 4, 6, .inr (.inr (.inr (.inr fb))))), (bo, .inr (0, [.ref sp, .ref pa, .int 0, .ref ru, .ref co, .ref tr])), (sp, .inl (E.2 0, 25, .inl (fun _ => 0)))]) hD hS hA [0, 1, 2, 3] rfl
  refine va_calli (va_runV (As := [.int (xs 1), .int (xs 2), .int (xs 3), .int (xs 4)]) (rest := []) ⟨hx, hb, hml, hown, hts⟩ (c_X11_speed l E x0 tp rd se ba of pl sr sc bo sp pa ru co tr fb (xs 1) (xs 2) (xs 3) (xs 4) H.size hfb) (cwV 4 hts gL_law_X11_speed rfl rfl rfl (by decide +kernel) ⟨Nat.le_of_ble_eq_true rfl, Nat.le_of_ble_eq_true rfl⟩) ⟨pcW_blind, va_recv hK hPc (ci := 11) (q0 := 0) rfl rfl, (pcW_pre hPc hkn hDc hst hS hFc)⟩ rfl rfl hl.1 rfl (lv_room (Nat.le_of_ble_eq_true rfl)) dL_law_333 ⟨Nat.le_of_ble_eq_true rfl, Nat.le_of_ble_eq_true rfl⟩) hS (fun q _ h => hFc q h) hFc (fun r9 u t H1 locs ht hvm hw10 hB hz1 hk1 hS => ?_)
  obtain ⟨hP1, hD1⟩ := hB
  rw [ht] at hP1
  try dsimp only at hw10
  obtain ⟨hP, hD⟩ := va_join (wr := [(h1, .inr (12, mO q)), (q 20, .inl (E.2 0, 150, .inl (fun _ => 0)))]) (w1 := []) hP hD [0, 1, 2, 3] [4, 5] rfl rfl (by decide) (by decide) hk1 hFc hP1 hD1
  generalize H1 = H at hP hS ⊢
  have hP : va_P E.1 vwCl [(h1, .inr (12, mO q)), (q 20, .inl (E.2 0, 150, .inl (fun _ => 0)))] H := hP
  have hD : va_D A [(h1, .inr (12, mO q)), (q 20, .inl (E.2 0, 150, .inl (fun _ => 0)))] := hD
  refine lv_aload_n hx hb dL_law_336 rfl (lv_at hl 1 rfl) ?_
  refine lv_aload_n hx hb dL_law_337 rfl (lv_at hl 3 rfl) ?_
  refine lv_iload_n hx hb dL_law_338 rfl (lv_at hl 0 rfl) ?_
  refine lv_iconst (v := 1) hx hb dL_law_339 (by decide) ?_
  refine lv_iadd hx hb dL_law_340 ?_
  refine lv_topi (fun x11 ex11 => ?_)
  obtain rfl : x11 = 1 := ex11.trans (by decide +kernel)
  refine va_sld hx hb hX hbl hbA hS (show vp_in 1 6 from by unfold vp_in; decide) dL_law_341 ?_
  refine lv_topi (fun x12 ex12 => ?_)
  obtain rfl : x12 = xs 1 := ex12
  refine lv_aload_n hx hb dL_law_342 rfl (lv_at hl 3 rfl) ?_
  refine lv_iload_n hx hb dL_law_343 rfl (lv_at hl 0 rfl) ?_
  refine lv_iconst (v := 2) hx hb dL_law_344 (by decide) ?_
  refine lv_iadd hx hb dL_law_345 ?_
  refine lv_topi (fun x13 ex13 => ?_)
  obtain rfl : x13 = 2 := ex13.trans (by decide +kernel)
  refine va_sld hx hb hX hbl hbA hS (show vp_in 2 6 from by unfold vp_in; decide) dL_law_346 ?_
  refine lv_topi (fun x14 ex14 => ?_)
  obtain rfl : x14 = xs 2 := ex14
  refine lv_aload_n hx hb dL_law_347 rfl (lv_at hl 3 rfl) ?_
  refine lv_iload_n hx hb dL_law_348 rfl (lv_at hl 0 rfl) ?_
  refine lv_iconst (v := 3) hx hb dL_law_349 (by decide) ?_
  refine lv_iadd hx hb dL_law_350 ?_
  refine lv_topi (fun x15 ex15 => ?_)
  obtain rfl : x15 = 3 := ex15.trans (by decide +kernel)
  refine va_sld hx hb hX hbl hbA hS (show vp_in 3 6 from by unfold vp_in; decide) dL_law_351 ?_
  refine lv_topi (fun x16 ex16 => ?_)
  obtain rfl : x16 = xs 3 := ex16
  refine lv_aload_n hx hb dL_law_352 rfl (lv_at hl 3 rfl) ?_
  refine lv_iload_n hx hb dL_law_353 rfl (lv_at hl 0 rfl) ?_
  refine lv_iconst (v := 4) hx hb dL_law_354 (by decide) ?_
  refine lv_iadd hx hb dL_law_355 ?_
  refine lv_topi (fun x17 ex17 => ?_)
  obtain rfl : x17 = 4 := ex17.trans (by decide +kernel)
  refine va_sld hx hb hX hbl hbA hS (show vp_in 4 6 from by unfold vp_in; decide) dL_law_356 ?_
  refine lv_topi (fun x18 ex18 => ?_)
  obtain rfl : x18 = xs 4 := ex18
  have hPc := hP.sub (ws' := [(h1, .inr (12, mO q)), (q 20, .inl (E.2 0, 150, .inl (fun _ => 0)))]) [0, 1] rfl
  have hDc := hD.sub (ws' := [(h1, .inr (12, mO q)), (q 20, .inl (E.2 0, 150, .inl (fun _ => 0)))]) [0, 1] (by decide) rfl
  have hFc := va_free (wc := [(h1, .inr (12, mO q)), (q 20, .inl (E.2 0, 150, .inl (fun _ => 0)))]) hD hS hA [0, 1] rfl
  refine va_calli (va_runV (As := [.int (xs 1), .int (xs 2), .int (xs 3), .int (xs 4)]) (rest := [.int r9]) ⟨hx, hb, hml, hown, hts⟩ (c_X12_speed l E h1 q (xs 1) (xs 2) (xs 3) (xs 4) H.size ) (cwV 4 hts gL_law_X12_speed rfl rfl rfl (by decide +kernel) ⟨Nat.le_of_ble_eq_true rfl, Nat.le_of_ble_eq_true rfl⟩) ⟨pcW_blind, va_recv hK hPc (ci := 12) (q0 := 0) rfl rfl, (pcW_pre hPc hkn hDc hst hS hFc)⟩ rfl rfl hl.1 rfl (lv_room (Nat.le_of_ble_eq_true rfl)) dL_law_357 ⟨Nat.le_of_ble_eq_true rfl, Nat.le_of_ble_eq_true rfl⟩) hS (fun q _ h => hFc q h) hFc (fun r19 u t H1 locs ht hvm hw20 hB hz1 hk1 hS => ?_)
  obtain ⟨hP1, hD1⟩ := hB
  rw [ht] at hP1
  try dsimp only at hw20
  obtain ⟨hP, hD⟩ := va_join (wr := []) (w1 := []) hP hD [0, 1] [] rfl rfl (by decide) (by decide) hk1 hFc hP1 hD1
  generalize H1 = H at hP hS ⊢
  have hP : va_P E.1 vwCl [] H := hP
  have hD : va_D A [] := hD
  refine lv_icmp_eq (tgt := 1029) hx hb dL_law_360 (by decide) (fun c9 => ?_) (fun c9 => absurd c9 (fun h => h (hw10.trans hw20.symm)))
  exact law_end l C0 hA hbA hAs _ _ hS _ _ _ (lv_sub hl [0, 1, 2, 3] rfl)
set_option maxHeartbeats 4000000 in
set_option maxRecDepth 100000 in
theorem op_water {p : Program} {e : Env} {s : State} {m : MethodId} {below : List Frame} {meth : Method} {c : Code} (l : Launch) {b : Nat} {xs : Nat → Int32} (C0 : lw_At p s m meth c b 6 xs) {A : Nat → Prop} (hA : ∀ q : Nat, s.heap.size ≤ q → A q) (hbA : ¬ A b) (hAs : ∀ q : Nat, A q → s.heap.size ≤ q) (E : vE) (hkn : kn E s) (hst : st A s s.heap) (x0 h1 : Nat) (tp : Nat) (rd : Nat) (se : Nat) (ba : Nat) (of : Nat) (pl : Nat) (sr : Nat) (sc : Nat) (bo : Nat) (sp : Nat) (pa : Nat) (ru : Nat) (co : Nat) (tr : Nat) (fb : Nat → Option Nat) (q : Nat → Nat) (hfb : inR (xs 1) 0 5 = true → fb (xs 1).toNatClampNeg = some bo) (H : Heap) (locs : List Loc) (hP : va_P E.1 vwCl [(x0, .inr (11, [.ref tp, .ref rd, .ref se, .ref ba, .ref of, .ref pl, .ref sr, .ref sc, .int 0])), (ba, .inl (E.2 4, 6, .inr (.inr (.inr (.inr fb))))), (bo, .inr (0, [.ref sp, .ref pa, .int 0, .ref ru, .ref co, .ref tr])), (h1, .inr (12, mO q)), (q 21, .inl (E.2 0, 6, .inl (fun _ => 0)))] H) (hD : va_D A [(x0, .inr (11, [.ref tp, .ref rd, .ref se, .ref ba, .ref of, .ref pl, .ref sr, .ref sc, .int 0])), (ba, .inl (E.2 4, 6, .inr (.inr (.inr (.inr fb))))), (bo, .inr (0, [.ref sp, .ref pa, .int 0, .ref ru, .ref co, .ref tr])), (h1, .inr (12, mO q)), (q 21, .inl (E.2 0, 6, .inl (fun _ => 0)))]) (hS : va_S A s.heap H locs) (ls : Array Slot) (hl : lv_has ls 4 [(3, .int 0), (2, .ref h1), (1, .ref x0), (0, .ref b)]) : W p l e room_1 s m #[Value.ref b] below meth c H locs 600000 7302249 (lw_Z below #[Value.ref b] s) (F0 m 365 ls []) := by
  obtain ⟨hx, hb, hr, hml, hown0, hts0, hX, hbl, hlocks, hgv⟩ := id C0
  have hown : s.vm.findClass RL = some m.cls := hown0
  have hts : ∀ w ∈ wsL_law, w.before #[Value.ref b] s = true := fun w h => hts0 w (wsL_law_in w h)
  have hK := hkn.1
  refine lv_aload_n hx hb dL_law_365 rfl (lv_at hl 2 rfl) ?_
  refine lv_aload_n hx hb dL_law_366 rfl (lv_at hl 3 rfl) ?_
  refine lv_iload_n hx hb dL_law_367 rfl (lv_at hl 0 rfl) ?_
  refine lv_iconst (v := 1) hx hb dL_law_368 (by decide) ?_
  refine lv_iadd hx hb dL_law_369 ?_
  refine lv_topi (fun x1 ex1 => ?_)
  obtain rfl : x1 = 1 := ex1.trans (by decide +kernel)
  refine va_sld hx hb hX hbl hbA hS (show vp_in 1 6 from by unfold vp_in; decide) dL_law_370 ?_
  refine lv_topi (fun x2 ex2 => ?_)
  obtain rfl : x2 = xs 1 := ex2
  refine lv_aload_n hx hb dL_law_371 rfl (lv_at hl 3 rfl) ?_
  refine lv_iload_n hx hb dL_law_372 rfl (lv_at hl 0 rfl) ?_
  refine lv_iconst (v := 2) hx hb dL_law_373 (by decide) ?_
  refine lv_iadd hx hb dL_law_374 ?_
  refine lv_topi (fun x3 ex3 => ?_)
  obtain rfl : x3 = 2 := ex3.trans (by decide +kernel)
  refine va_sld hx hb hX hbl hbA hS (show vp_in 2 6 from by unfold vp_in; decide) dL_law_375 ?_
  refine lv_topi (fun x4 ex4 => ?_)
  obtain rfl : x4 = xs 2 := ex4
  have hPc := hP.sub (ws' := [(x0, .inr (11, [.ref tp, .ref rd, .ref se, .ref ba, .ref of, .ref pl, .ref sr, .ref sc, .int 0])), (ba, .inl (E.2 4, 6, .inr (.inr (.inr (.inr fb))))), (bo, .inr (0, [.ref sp, .ref pa, .int 0, .ref ru, .ref co, .ref tr]))]) [0, 1, 2] rfl
  have hDc := hD.sub (ws' := [(x0, .inr (11, [.ref tp, .ref rd, .ref se, .ref ba, .ref of, .ref pl, .ref sr, .ref sc, .int 0])), (ba, .inl (E.2 4, 6, .inr (.inr (.inr (.inr fb))))), (bo, .inr (0, [.ref sp, .ref pa, .int 0, .ref ru, .ref co, .ref tr]))]) [0, 1, 2] (by decide) rfl
  have hFc := va_free (wc := [(x0, .inr (11, [.ref tp, .ref rd, .ref se, .ref ba, .ref of, .ref pl, .ref sr, .ref sc, .int 0])), (ba, .inl (E.2 4, 6, .inr (.inr (.inr (.inr fb))))), (bo, .inr (0, [.ref sp, .ref pa, .int 0, .ref ru, .ref co, .ref tr]))]) hD hS hA [0, 1, 2] rfl
  refine va_calli (va_runV (As := [.int (xs 1), .int (xs 2)]) (rest := []) ⟨hx, hb, hml, hown, hts⟩ (c_X11_water l E x0 tp rd se ba of pl sr sc bo sp pa ru co tr fb (xs 1) (xs 2) H.size hfb) (cwV 2 hts gL_law_X11_water rfl rfl rfl (by decide +kernel) ⟨Nat.le_of_ble_eq_true rfl, Nat.le_of_ble_eq_true rfl⟩) ⟨pcW_blind, va_recv hK hPc (ci := 11) (q0 := 0) rfl rfl, (pcW_pre hPc hkn hDc hst hS hFc)⟩ rfl rfl hl.1 rfl (lv_room (Nat.le_of_ble_eq_true rfl)) dL_law_376 ⟨Nat.le_of_ble_eq_true rfl, Nat.le_of_ble_eq_true rfl⟩) hS (fun q _ h => hFc q h) hFc (fun r5 u t H1 locs ht hvm hw6 hB hz1 hk1 hS => ?_)
  obtain ⟨hP1, hD1⟩ := hB
  rw [ht] at hP1
  try dsimp only at hw6
  obtain ⟨hP, hD⟩ := va_join (wr := [(h1, .inr (12, mO q)), (q 21, .inl (E.2 0, 6, .inl (fun _ => 0)))]) (w1 := []) hP hD [0, 1, 2] [3, 4] rfl rfl (by decide) (by decide) hk1 hFc hP1 hD1
  generalize H1 = H at hP hS ⊢
  have hP : va_P E.1 vwCl [(h1, .inr (12, mO q)), (q 21, .inl (E.2 0, 6, .inl (fun _ => 0)))] H := hP
  have hD : va_D A [(h1, .inr (12, mO q)), (q 21, .inl (E.2 0, 6, .inl (fun _ => 0)))] := hD
  refine lv_aload_n hx hb dL_law_379 rfl (lv_at hl 1 rfl) ?_
  refine lv_aload_n hx hb dL_law_380 rfl (lv_at hl 3 rfl) ?_
  refine lv_iload_n hx hb dL_law_381 rfl (lv_at hl 0 rfl) ?_
  refine lv_iconst (v := 1) hx hb dL_law_382 (by decide) ?_
  refine lv_iadd hx hb dL_law_383 ?_
  refine lv_topi (fun x7 ex7 => ?_)
  obtain rfl : x7 = 1 := ex7.trans (by decide +kernel)
  refine va_sld hx hb hX hbl hbA hS (show vp_in 1 6 from by unfold vp_in; decide) dL_law_384 ?_
  refine lv_topi (fun x8 ex8 => ?_)
  obtain rfl : x8 = xs 1 := ex8
  refine lv_aload_n hx hb dL_law_385 rfl (lv_at hl 3 rfl) ?_
  refine lv_iload_n hx hb dL_law_386 rfl (lv_at hl 0 rfl) ?_
  refine lv_iconst (v := 2) hx hb dL_law_387 (by decide) ?_
  refine lv_iadd hx hb dL_law_388 ?_
  refine lv_topi (fun x9 ex9 => ?_)
  obtain rfl : x9 = 2 := ex9.trans (by decide +kernel)
  refine va_sld hx hb hX hbl hbA hS (show vp_in 2 6 from by unfold vp_in; decide) dL_law_389 ?_
  refine lv_topi (fun x10 ex10 => ?_)
  obtain rfl : x10 = xs 2 := ex10
  have hPc := hP.sub (ws' := [(h1, .inr (12, mO q)), (q 21, .inl (E.2 0, 6, .inl (fun _ => 0)))]) [0, 1] rfl
  have hDc := hD.sub (ws' := [(h1, .inr (12, mO q)), (q 21, .inl (E.2 0, 6, .inl (fun _ => 0)))]) [0, 1] (by decide) rfl
  have hFc := va_free (wc := [(h1, .inr (12, mO q)), (q 21, .inl (E.2 0, 6, .inl (fun _ => 0)))]) hD hS hA [0, 1] rfl
  refine va_calli (va_runV (As := [.int (xs 1), .int (xs 2)]) (rest := [.int r5]) ⟨hx, hb, hml, hown, hts⟩ (c_X12_water l E h1 q (xs 1) (xs 2) H.size ) (cwV 2 hts gL_law_X12_water rfl rfl rfl (by decide +kernel) ⟨Nat.le_of_ble_eq_true rfl, Nat.le_of_ble_eq_true rfl⟩) ⟨pcW_blind, va_recv hK hPc (ci := 12) (q0 := 0) rfl rfl, (pcW_pre hPc hkn hDc hst hS hFc)⟩ rfl rfl hl.1 rfl (lv_room (Nat.le_of_ble_eq_true rfl)) dL_law_390 ⟨Nat.le_of_ble_eq_true rfl, Nat.le_of_ble_eq_true rfl⟩) hS (fun q _ h => hFc q h) hFc (fun r11 u t H1 locs ht hvm hw12 hB hz1 hk1 hS => ?_)
  obtain ⟨hP1, hD1⟩ := hB
  rw [ht] at hP1
  try dsimp only at hw12
  obtain ⟨hP, hD⟩ := va_join (wr := []) (w1 := []) hP hD [0, 1] [] rfl rfl (by decide) (by decide) hk1 hFc hP1 hD1
  generalize H1 = H at hP hS ⊢
  have hP : va_P E.1 vwCl [] H := hP
  have hD : va_D A [] := hD
  refine lv_icmp_eq (tgt := 1029) hx hb dL_law_393 (by decide) (fun c9 => ?_) (fun c9 => absurd c9 (fun h => h (hw6.trans hw12.symm)))
  exact law_end l C0 hA hbA hAs _ _ hS _ _ _ (lv_sub hl [0, 1, 2, 3] rfl)
set_option maxHeartbeats 4000000 in
set_option maxRecDepth 100000 in
theorem op_lasts {p : Program} {e : Env} {s : State} {m : MethodId} {below : List Frame} {meth : Method} {c : Code} (l : Launch) {b : Nat} {xs : Nat → Int32} (C0 : lw_At p s m meth c b 6 xs) {A : Nat → Prop} (hA : ∀ q : Nat, s.heap.size ≤ q → A q) (hbA : ¬ A b) (hAs : ∀ q : Nat, A q → s.heap.size ≤ q) (E : vE) (hkn : kn E s) (hst : st A s s.heap) (x0 h1 : Nat) (tp : Nat) (rd : Nat) (se : Nat) (ba : Nat) (of : Nat) (pl : Nat) (sr : Nat) (sc : Nat) (bo : Nat) (sp : Nat) (pa : Nat) (ru : Nat) (co : Nat) (tr : Nat) (fb : Nat → Option Nat) (fp : Nat → Int32) (q : Nat → Nat) (fl : Nat → Int32) (hfb : inR (xs 1) 0 5 = true → fb (xs 1).toNatClampNeg = some bo) (hfp : ∀ k, k < 4 → fp k = 10000) (mhfl : ∀ k, k < 24 → fl k = 10000) (H : Heap) (locs : List Loc) (hP : va_P E.1 vwCl [(x0, .inr (11, [.ref tp, .ref rd, .ref se, .ref ba, .ref of, .ref pl, .ref sr, .ref sc, .int 0])), (ba, .inl (E.2 4, 6, .inr (.inr (.inr (.inr fb))))), (bo, .inr (0, [.ref sp, .ref pa, .int 0, .ref ru, .ref co, .ref tr])), (pa, .inl (E.2 0, 4, .inl fp)), (h1, .inr (12, mO q)), (q 22, .inl (E.2 0, 24, .inl fl))] H) (hD : va_D A [(x0, .inr (11, [.ref tp, .ref rd, .ref se, .ref ba, .ref of, .ref pl, .ref sr, .ref sc, .int 0])), (ba, .inl (E.2 4, 6, .inr (.inr (.inr (.inr fb))))), (bo, .inr (0, [.ref sp, .ref pa, .int 0, .ref ru, .ref co, .ref tr])), (pa, .inl (E.2 0, 4, .inl fp)), (h1, .inr (12, mO q)), (q 22, .inl (E.2 0, 24, .inl fl))]) (hS : va_S A s.heap H locs) (ls : Array Slot) (hl : lv_has ls 4 [(3, .int 0), (2, .ref h1), (1, .ref x0), (0, .ref b)]) : W p l e room_1 s m #[Value.ref b] below meth c H locs 600000 7302249 (lw_Z below #[Value.ref b] s) (F0 m 398 ls []) := by
  obtain ⟨hx, hb, hr, hml, hown0, hts0, hX, hbl, hlocks, hgv⟩ := id C0
  have hown : s.vm.findClass RL = some m.cls := hown0
  have hts : ∀ w ∈ wsL_law, w.before #[Value.ref b] s = true := fun w h => hts0 w (wsL_law_in w h)
  have hK := hkn.1
  refine lv_aload_n hx hb dL_law_398 rfl (lv_at hl 2 rfl) ?_
  refine lv_aload_n hx hb dL_law_399 rfl (lv_at hl 3 rfl) ?_
  refine lv_iload_n hx hb dL_law_400 rfl (lv_at hl 0 rfl) ?_
  refine lv_iconst (v := 1) hx hb dL_law_401 (by decide) ?_
  refine lv_iadd hx hb dL_law_402 ?_
  refine lv_topi (fun x1 ex1 => ?_)
  obtain rfl : x1 = 1 := ex1.trans (by decide +kernel)
  refine va_sld hx hb hX hbl hbA hS (show vp_in 1 6 from by unfold vp_in; decide) dL_law_403 ?_
  refine lv_topi (fun x2 ex2 => ?_)
  obtain rfl : x2 = xs 1 := ex2
  refine lv_aload_n hx hb dL_law_404 rfl (lv_at hl 3 rfl) ?_
  refine lv_iload_n hx hb dL_law_405 rfl (lv_at hl 0 rfl) ?_
  refine lv_iconst (v := 2) hx hb dL_law_406 (by decide) ?_
  refine lv_iadd hx hb dL_law_407 ?_
  refine lv_topi (fun x3 ex3 => ?_)
  obtain rfl : x3 = 2 := ex3.trans (by decide +kernel)
  refine va_sld hx hb hX hbl hbA hS (show vp_in 2 6 from by unfold vp_in; decide) dL_law_408 ?_
  refine lv_topi (fun x4 ex4 => ?_)
  obtain rfl : x4 = xs 2 := ex4
  refine lv_aload_n hx hb dL_law_409 rfl (lv_at hl 3 rfl) ?_
  refine lv_iload_n hx hb dL_law_410 rfl (lv_at hl 0 rfl) ?_
  refine lv_iconst (v := 3) hx hb dL_law_411 (by decide) ?_
  refine lv_iadd hx hb dL_law_412 ?_
  refine lv_topi (fun x5 ex5 => ?_)
  obtain rfl : x5 = 3 := ex5.trans (by decide +kernel)
  refine va_sld hx hb hX hbl hbA hS (show vp_in 3 6 from by unfold vp_in; decide) dL_law_413 ?_
  refine lv_topi (fun x6 ex6 => ?_)
  obtain rfl : x6 = xs 3 := ex6
  have hPc := hP.sub (ws' := [(x0, .inr (11, [.ref tp, .ref rd, .ref se, .ref ba, .ref of, .ref pl, .ref sr, .ref sc, .int 0])), (ba, .inl (E.2 4, 6, .inr (.inr (.inr (.inr fb))))), (bo, .inr (0, [.ref sp, .ref pa, .int 0, .ref ru, .ref co, .ref tr])), (pa, .inl (E.2 0, 4, .inl fp))]) [0, 1, 2, 3] rfl
  have hDc := hD.sub (ws' := [(x0, .inr (11, [.ref tp, .ref rd, .ref se, .ref ba, .ref of, .ref pl, .ref sr, .ref sc, .int 0])), (ba, .inl (E.2 4, 6, .inr (.inr (.inr (.inr fb))))), (bo, .inr (0, [.ref sp, .ref pa, .int 0, .ref ru, .ref co, .ref tr])), (pa, .inl (E.2 0, 4, .inl fp))]) [0, 1, 2, 3] (by decide) rfl
  have hFc := va_free (wc := [(x0, .inr (11, [.ref tp, .ref rd, .ref se, .ref ba, .ref of, .ref pl, .ref sr, .ref sc, .int 0])), (ba, .inl (E.2 4, 6, .inr (.inr (.inr (.inr fb))))), (bo, .inr (0, [.ref sp, .ref pa, .int 0, .ref ru, .ref co, .ref tr])), (pa, .inl (E.2 0, 4, .inl fp))]) hD hS hA [0, 1, 2, 3] rfl
  refine va_calli (va_runV (As := [.int (xs 1), .int (xs 2), .int (xs 3)]) (rest := []) ⟨hx, hb, hml, hown, hts⟩ (c_X11_lasts l E x0 tp rd se ba of pl sr sc bo sp pa ru co tr fb fp (xs 1) (xs 2) (xs 3) H.size hfb hfp) (cwV 3 hts gL_law_X11_lasts rfl rfl rfl (by decide +kernel) ⟨Nat.le_of_ble_eq_true rfl, Nat.le_of_ble_eq_true rfl⟩) ⟨pcW_blind, va_recv hK hPc (ci := 11) (q0 := 0) rfl rfl, (pcW_pre hPc hkn hDc hst hS hFc)⟩ rfl rfl hl.1 rfl (lv_room (Nat.le_of_ble_eq_true rfl)) dL_law_414 ⟨Nat.le_of_ble_eq_true rfl, Nat.le_of_ble_eq_true rfl⟩) hS (fun q _ h => hFc q h) hFc (fun r7 u t H1 locs ht hvm hw8 hB hz1 hk1 hS => ?_)
  obtain ⟨hP1, hD1⟩ := hB
  rw [ht] at hP1
  try dsimp only at hw8
  obtain ⟨hP, hD⟩ := va_join (wr := [(h1, .inr (12, mO q)), (q 22, .inl (E.2 0, 24, .inl fl))]) (w1 := []) hP hD [0, 1, 2, 3] [4, 5] rfl rfl (by decide) (by decide) hk1 hFc hP1 hD1
  generalize H1 = H at hP hS ⊢
  have hP : va_P E.1 vwCl [(h1, .inr (12, mO q)), (q 22, .inl (E.2 0, 24, .inl fl))] H := hP
  have hD : va_D A [(h1, .inr (12, mO q)), (q 22, .inl (E.2 0, 24, .inl fl))] := hD
  refine lv_aload_n hx hb dL_law_417 rfl (lv_at hl 1 rfl) ?_
  refine lv_aload_n hx hb dL_law_418 rfl (lv_at hl 3 rfl) ?_
  refine lv_iload_n hx hb dL_law_419 rfl (lv_at hl 0 rfl) ?_
  refine lv_iconst (v := 1) hx hb dL_law_420 (by decide) ?_
  refine lv_iadd hx hb dL_law_421 ?_
  refine lv_topi (fun x9 ex9 => ?_)
  obtain rfl : x9 = 1 := ex9.trans (by decide +kernel)
  refine va_sld hx hb hX hbl hbA hS (show vp_in 1 6 from by unfold vp_in; decide) dL_law_422 ?_
  refine lv_topi (fun x10 ex10 => ?_)
  obtain rfl : x10 = xs 1 := ex10
  refine lv_aload_n hx hb dL_law_423 rfl (lv_at hl 3 rfl) ?_
  refine lv_iload_n hx hb dL_law_424 rfl (lv_at hl 0 rfl) ?_
  refine lv_iconst (v := 2) hx hb dL_law_425 (by decide) ?_
  refine lv_iadd hx hb dL_law_426 ?_
  refine lv_topi (fun x11 ex11 => ?_)
  obtain rfl : x11 = 2 := ex11.trans (by decide +kernel)
  refine va_sld hx hb hX hbl hbA hS (show vp_in 2 6 from by unfold vp_in; decide) dL_law_427 ?_
  refine lv_topi (fun x12 ex12 => ?_)
  obtain rfl : x12 = xs 2 := ex12
  refine lv_aload_n hx hb dL_law_428 rfl (lv_at hl 3 rfl) ?_
  refine lv_iload_n hx hb dL_law_429 rfl (lv_at hl 0 rfl) ?_
  refine lv_iconst (v := 3) hx hb dL_law_430 (by decide) ?_
  refine lv_iadd hx hb dL_law_431 ?_
  refine lv_topi (fun x13 ex13 => ?_)
  obtain rfl : x13 = 3 := ex13.trans (by decide +kernel)
  refine va_sld hx hb hX hbl hbA hS (show vp_in 3 6 from by unfold vp_in; decide) dL_law_432 ?_
  refine lv_topi (fun x14 ex14 => ?_)
  obtain rfl : x14 = xs 3 := ex14
  have hPc := hP.sub (ws' := [(h1, .inr (12, mO q)), (q 22, .inl (E.2 0, 24, .inl fl))]) [0, 1] rfl
  have hDc := hD.sub (ws' := [(h1, .inr (12, mO q)), (q 22, .inl (E.2 0, 24, .inl fl))]) [0, 1] (by decide) rfl
  have hFc := va_free (wc := [(h1, .inr (12, mO q)), (q 22, .inl (E.2 0, 24, .inl fl))]) hD hS hA [0, 1] rfl
  refine va_calli (va_runV (As := [.int (xs 1), .int (xs 2), .int (xs 3)]) (rest := [.int r7]) ⟨hx, hb, hml, hown, hts⟩ (c_X12_lasts l E h1 q fl (xs 1) (xs 2) (xs 3) H.size mhfl) (cwV 3 hts gL_law_X12_lasts rfl rfl rfl (by decide +kernel) ⟨Nat.le_of_ble_eq_true rfl, Nat.le_of_ble_eq_true rfl⟩) ⟨pcW_blind, va_recv hK hPc (ci := 12) (q0 := 0) rfl rfl, (pcW_pre hPc hkn hDc hst hS hFc)⟩ rfl rfl hl.1 rfl (lv_room (Nat.le_of_ble_eq_true rfl)) dL_law_433 ⟨Nat.le_of_ble_eq_true rfl, Nat.le_of_ble_eq_true rfl⟩) hS (fun q _ h => hFc q h) hFc (fun r15 u t H1 locs ht hvm hw16 hB hz1 hk1 hS => ?_)
  obtain ⟨hP1, hD1⟩ := hB
  rw [ht] at hP1
  try dsimp only at hw16
  obtain ⟨hP, hD⟩ := va_join (wr := []) (w1 := []) hP hD [0, 1] [] rfl rfl (by decide) (by decide) hk1 hFc hP1 hD1
  generalize H1 = H at hP hS ⊢
  have hP : va_P E.1 vwCl [] H := hP
  have hD : va_D A [] := hD
  refine lv_icmp_eq (tgt := 1029) hx hb dL_law_436 (by decide) (fun c9 => ?_) (fun c9 => absurd c9 (fun h => h (hw8.trans hw16.symm)))
  exact law_end l C0 hA hbA hAs _ _ hS _ _ _ (lv_sub hl [0, 1, 2, 3] rfl)
set_option maxHeartbeats 4000000 in
set_option maxRecDepth 100000 in
theorem op_skipper {p : Program} {e : Env} {s : State} {m : MethodId} {below : List Frame} {meth : Method} {c : Code} (l : Launch) {b : Nat} {xs : Nat → Int32} (C0 : lw_At p s m meth c b 6 xs) {A : Nat → Prop} (hA : ∀ q : Nat, s.heap.size ≤ q → A q) (hbA : ¬ A b) (hAs : ∀ q : Nat, A q → s.heap.size ≤ q) (E : vE) (hkn : kn E s) (hst : st A s s.heap) (x0 h1 : Nat) (tp : Nat) (rd : Nat) (se : Nat) (ba : Nat) (of : Nat) (pl : Nat) (sr : Nat) (sc : Nat) (bo : Nat) (sp : Nat) (pa : Nat) (ru : Nat) (co : Nat) (tr : Nat) (fb : Nat → Option Nat) (u1 : Nat) (u2 : Nat) (u3 : Nat) (u4 : Nat) (tk : Nat) (by_ : Nat) (s1 : Nat) (s2 : Nat) (s3 : Nat) (s4 : Nat) (q : Nat → Nat) (hfb : inR (xs 1) 0 5 = true → fb (xs 1).toNatClampNeg = some bo) (H : Heap) (locs : List Loc) (hP : va_P E.1 vwCl [(x0, .inr (11, [.ref tp, .ref rd, .ref se, .ref ba, .ref of, .ref pl, .ref sr, .ref sc, .int 0])), (ba, .inl (E.2 4, 6, .inr (.inr (.inr (.inr fb))))), (bo, .inr (0, [.ref sp, .ref pa, .int 0, .ref ru, .ref co, .ref tr])), (ru, .inr (7, [.ref u1, .ref u2, .ref u3, .ref u4, .int 0])), (rd, .inr (6, [.ref tk, .int 0, .int (-1)])), (tk, .inr (10, [.ref tp, .int 0, .int 0, .int 0, .int 0])), (tp, .inr (9, [.ref by_, .int 0])), (sr, .inr (7, [.ref s1, .ref s2, .ref s3, .ref s4, .int 0])), (h1, .inr (12, mO q)), (q 11, .inl (E.2 0, 7, .inl (fun _ => 0))), (q 10, .inl (E.2 0, 336, .inl (fun _ => 0)))] H) (hD : va_D A [(x0, .inr (11, [.ref tp, .ref rd, .ref se, .ref ba, .ref of, .ref pl, .ref sr, .ref sc, .int 0])), (ba, .inl (E.2 4, 6, .inr (.inr (.inr (.inr fb))))), (bo, .inr (0, [.ref sp, .ref pa, .int 0, .ref ru, .ref co, .ref tr])), (ru, .inr (7, [.ref u1, .ref u2, .ref u3, .ref u4, .int 0])), (rd, .inr (6, [.ref tk, .int 0, .int (-1)])), (tk, .inr (10, [.ref tp, .int 0, .int 0, .int 0, .int 0])), (tp, .inr (9, [.ref by_, .int 0])), (sr, .inr (7, [.ref s1, .ref s2, .ref s3, .ref s4, .int 0])), (h1, .inr (12, mO q)), (q 11, .inl (E.2 0, 7, .inl (fun _ => 0))), (q 10, .inl (E.2 0, 336, .inl (fun _ => 0)))]) (hS : va_S A s.heap H locs) (ls : Array Slot) (hl : lv_has ls 4 [(3, .int 0), (2, .ref h1), (1, .ref x0), (0, .ref b)]) : W p l e room_1 s m #[Value.ref b] below meth c H locs 600000 7302249 (lw_Z below #[Value.ref b] s) (F0 m 441 ls []) := by
  obtain ⟨hx, hb, hr, hml, hown0, hts0, hX, hbl, hlocks, hgv⟩ := id C0
  have hown : s.vm.findClass RL = some m.cls := hown0
  have hts : ∀ w ∈ wsL_law, w.before #[Value.ref b] s = true := fun w h => hts0 w (wsL_law_in w h)
  have hK := hkn.1
  refine lv_aload_n hx hb dL_law_441 rfl (lv_at hl 2 rfl) ?_
  refine lv_aload_n hx hb dL_law_442 rfl (lv_at hl 3 rfl) ?_
  refine lv_iload_n hx hb dL_law_443 rfl (lv_at hl 0 rfl) ?_
  refine lv_iconst (v := 1) hx hb dL_law_444 (by decide) ?_
  refine lv_iadd hx hb dL_law_445 ?_
  refine lv_topi (fun x1 ex1 => ?_)
  obtain rfl : x1 = 1 := ex1.trans (by decide +kernel)
  refine va_sld hx hb hX hbl hbA hS (show vp_in 1 6 from by unfold vp_in; decide) dL_law_446 ?_
  refine lv_topi (fun x2 ex2 => ?_)
  obtain rfl : x2 = xs 1 := ex2
  have hPc := hP.sub (ws' := [(x0, .inr (11, [.ref tp, .ref rd, .ref se, .ref ba, .ref of, .ref pl, .ref sr, .ref sc, .int 0])), (ba, .inl (E.2 4, 6, .inr (.inr (.inr (.inr fb))))), (bo, .inr (0, [.ref sp, .ref pa, .int 0, .ref ru, .ref co, .ref tr])), (ru, .inr (7, [.ref u1, .ref u2, .ref u3, .ref u4, .int 0])), (rd, .inr (6, [.ref tk, .int 0, .int (-1)])), (tk, .inr (10, [.ref tp, .int 0, .int 0, .int 0, .int 0])), (tp, .inr (9, [.ref by_, .int 0])), (sr, .inr (7, [.ref s1, .ref s2, .ref s3, .ref s4, .int 0]))]) [0, 1, 2, 3, 4, 5, 6, 7] rfl
  have hDc := hD.sub (ws' := [(x0, .inr (11, [.ref tp, .ref rd, .ref se, .ref ba, .ref of, .ref pl, .ref sr, .ref sc, .int 0])), (ba, .inl (E.2 4, 6, .inr (.inr (.inr (.inr fb))))), (bo, .inr (0, [.ref sp, .ref pa, .int 0, .ref ru, .ref co, .ref tr])), (ru, .inr (7, [.ref u1, .ref u2, .ref u3, .ref u4, .int 0])), (rd, .inr (6, [.ref tk, .int 0, .int (-1)])), (tk, .inr (10, [.ref tp, .int 0, .int 0, .int 0, .int 0])), (tp, .inr (9, [.ref by_, .int 0])), (sr, .inr (7, [.ref s1, .ref s2, .ref s3, .ref s4, .int 0]))]) [0, 1, 2, 3, 4, 5, 6, 7] (by decide) rfl
  have hFc := va_free (wc := [(x0, .inr (11, [.ref tp, .ref rd, .ref se, .ref ba, .ref of, .ref pl, .ref sr, .ref sc, .int 0])), (ba, .inl (E.2 4, 6, .inr (.inr (.inr (.inr fb))))), (bo, .inr (0, [.ref sp, .ref pa, .int 0, .ref ru, .ref co, .ref tr])), (ru, .inr (7, [.ref u1, .ref u2, .ref u3, .ref u4, .int 0])), (rd, .inr (6, [.ref tk, .int 0, .int (-1)])), (tk, .inr (10, [.ref tp, .int 0, .int 0, .int 0, .int 0])), (tp, .inr (9, [.ref by_, .int 0])), (sr, .inr (7, [.ref s1, .ref s2, .ref s3, .ref s4, .int 0]))]) hD hS hA [0, 1, 2, 3, 4, 5, 6, 7] rfl
  refine va_calli (va_runV (As := [.int (xs 1)]) (rest := []) ⟨hx, hb, hml, hown, hts⟩ (c_X11_skipper l E x0 tp rd se ba of pl sr sc bo sp pa ru co tr fb u1 u2 u3 u4 tk by_ s1 s2 s3 s4 (xs 1) H.size hfb) (cwV 1 hts gL_law_X11_skipper rfl rfl rfl (by decide +kernel) ⟨Nat.le_of_ble_eq_true rfl, Nat.le_of_ble_eq_true rfl⟩) ⟨pcW_blind, va_recv hK hPc (ci := 11) (q0 := 0) rfl rfl, (pcW_pre hPc hkn hDc hst hS hFc)⟩ rfl rfl hl.1 rfl (lv_room (Nat.le_of_ble_eq_true rfl)) dL_law_447 ⟨Nat.le_of_ble_eq_true rfl, Nat.le_of_ble_eq_true rfl⟩) hS (fun q _ h => hFc q h) hFc (fun r3 u t H1 locs ht hvm hw4 hB hz1 hk1 hS => ?_)
  obtain ⟨hP1, hD1⟩ := hB
  rw [ht] at hP1
  try dsimp only at hw4
  obtain ⟨hP, hD⟩ := va_join (wr := [(h1, .inr (12, mO q)), (q 11, .inl (E.2 0, 7, .inl (fun _ => 0))), (q 10, .inl (E.2 0, 336, .inl (fun _ => 0)))]) (w1 := []) hP hD [0, 1, 2, 3, 4, 5, 6, 7] [8, 9, 10] rfl rfl (by decide) (by decide) hk1 hFc hP1 hD1
  generalize H1 = H at hP hS ⊢
  have hP : va_P E.1 vwCl [(h1, .inr (12, mO q)), (q 11, .inl (E.2 0, 7, .inl (fun _ => 0))), (q 10, .inl (E.2 0, 336, .inl (fun _ => 0)))] H := hP
  have hD : va_D A [(h1, .inr (12, mO q)), (q 11, .inl (E.2 0, 7, .inl (fun _ => 0))), (q 10, .inl (E.2 0, 336, .inl (fun _ => 0)))] := hD
  refine lv_aload_n hx hb dL_law_450 rfl (lv_at hl 1 rfl) ?_
  refine lv_aload_n hx hb dL_law_451 rfl (lv_at hl 3 rfl) ?_
  refine lv_iload_n hx hb dL_law_452 rfl (lv_at hl 0 rfl) ?_
  refine lv_iconst (v := 1) hx hb dL_law_453 (by decide) ?_
  refine lv_iadd hx hb dL_law_454 ?_
  refine lv_topi (fun x5 ex5 => ?_)
  obtain rfl : x5 = 1 := ex5.trans (by decide +kernel)
  refine va_sld hx hb hX hbl hbA hS (show vp_in 1 6 from by unfold vp_in; decide) dL_law_455 ?_
  refine lv_topi (fun x6 ex6 => ?_)
  obtain rfl : x6 = xs 1 := ex6
  have hPc := hP.sub (ws' := [(h1, .inr (12, mO q)), (q 11, .inl (E.2 0, 7, .inl (fun _ => 0))), (q 10, .inl (E.2 0, 336, .inl (fun _ => 0)))]) [0, 1, 2] rfl
  have hDc := hD.sub (ws' := [(h1, .inr (12, mO q)), (q 11, .inl (E.2 0, 7, .inl (fun _ => 0))), (q 10, .inl (E.2 0, 336, .inl (fun _ => 0)))]) [0, 1, 2] (by decide) rfl
  have hFc := va_free (wc := [(h1, .inr (12, mO q)), (q 11, .inl (E.2 0, 7, .inl (fun _ => 0))), (q 10, .inl (E.2 0, 336, .inl (fun _ => 0)))]) hD hS hA [0, 1, 2] rfl
  refine va_calli (va_runV (As := [.int (xs 1)]) (rest := [.int r3]) ⟨hx, hb, hml, hown, hts⟩ (c_X12_skipper l E h1 q (xs 1) H.size ) (cwV 1 hts gL_law_X12_skipper rfl rfl rfl (by decide +kernel) ⟨Nat.le_of_ble_eq_true rfl, Nat.le_of_ble_eq_true rfl⟩) ⟨pcW_blind, va_recv hK hPc (ci := 12) (q0 := 0) rfl rfl, (pcW_pre hPc hkn hDc hst hS hFc)⟩ rfl rfl hl.1 rfl (lv_room (Nat.le_of_ble_eq_true rfl)) dL_law_456 ⟨Nat.le_of_ble_eq_true rfl, Nat.le_of_ble_eq_true rfl⟩) hS (fun q _ h => hFc q h) hFc (fun r7 u t H1 locs ht hvm hw8 hB hz1 hk1 hS => ?_)
  obtain ⟨hP1, hD1⟩ := hB
  rw [ht] at hP1
  try dsimp only at hw8
  obtain ⟨hP, hD⟩ := va_join (wr := []) (w1 := []) hP hD [0, 1, 2] [] rfl rfl (by decide) (by decide) hk1 hFc hP1 hD1
  generalize H1 = H at hP hS ⊢
  have hP : va_P E.1 vwCl [] H := hP
  have hD : va_D A [] := hD
  refine lv_icmp_eq (tgt := 1029) hx hb dL_law_459 (by decide) (fun c9 => ?_) (fun c9 => absurd c9 (fun h => h (hw4.trans hw8.symm)))
  exact law_end l C0 hA hbA hAs _ _ hS _ _ _ (lv_sub hl [0, 1, 2, 3] rfl)
set_option maxHeartbeats 4000000 in
set_option maxRecDepth 100000 in
theorem op_insurer {p : Program} {e : Env} {s : State} {m : MethodId} {below : List Frame} {meth : Method} {c : Code} (l : Launch) {b : Nat} {xs : Nat → Int32} (C0 : lw_At p s m meth c b 6 xs) {A : Nat → Prop} (hA : ∀ q : Nat, s.heap.size ≤ q → A q) (hbA : ¬ A b) (hAs : ∀ q : Nat, A q → s.heap.size ≤ q) (E : vE) (hkn : kn E s) (hst : st A s s.heap) (x0 h1 : Nat) (tp : Nat) (rd : Nat) (se : Nat) (ba : Nat) (of : Nat) (pl : Nat) (sr : Nat) (sc : Nat) (bo : Nat) (sp : Nat) (pa : Nat) (ru : Nat) (co : Nat) (tr : Nat) (fb : Nat → Option Nat) (bx : Nat) (tk : Nat) (by_ : Nat) (bx2 : Nat) (q : Nat → Nat) (fm : Nat → Int32) (hfb : inR (xs 1) 0 5 = true → fb (xs 1).toNatClampNeg = some bo) (H : Heap) (locs : List Loc) (hP : va_P E.1 vwCl [(x0, .inr (11, [.ref tp, .ref rd, .ref se, .ref ba, .ref of, .ref pl, .ref sr, .ref sc, .int 0])), (ba, .inl (E.2 4, 6, .inr (.inr (.inr (.inr fb))))), (bo, .inr (0, [.ref sp, .ref pa, .int 0, .ref ru, .ref co, .ref tr])), (co, .inr (1, [.ref bx, .int 0, .int 0, .int 9, .int 0])), (rd, .inr (6, [.ref tk, .int 0, .int (-1)])), (tk, .inr (10, [.ref tp, .int 0, .int 0, .int 0, .int 0])), (tp, .inr (9, [.ref by_, .int 0])), (sc, .inr (1, [.ref bx2, .int 0, .int 0, .int 9, .int 0])), (h1, .inr (12, mO q)), (q 13, .inl (E.2 0, 7, .inl (fun _ => 0))), (q 14, .inl (E.2 0, 7, .inl (fun _ => 0))), (q 15, .inl (E.2 0, 7, .inl fm)), (q 12, .inl (E.2 0, 504, .inl (fun _ => 0)))] H) (hD : va_D A [(x0, .inr (11, [.ref tp, .ref rd, .ref se, .ref ba, .ref of, .ref pl, .ref sr, .ref sc, .int 0])), (ba, .inl (E.2 4, 6, .inr (.inr (.inr (.inr fb))))), (bo, .inr (0, [.ref sp, .ref pa, .int 0, .ref ru, .ref co, .ref tr])), (co, .inr (1, [.ref bx, .int 0, .int 0, .int 9, .int 0])), (rd, .inr (6, [.ref tk, .int 0, .int (-1)])), (tk, .inr (10, [.ref tp, .int 0, .int 0, .int 0, .int 0])), (tp, .inr (9, [.ref by_, .int 0])), (sc, .inr (1, [.ref bx2, .int 0, .int 0, .int 9, .int 0])), (h1, .inr (12, mO q)), (q 13, .inl (E.2 0, 7, .inl (fun _ => 0))), (q 14, .inl (E.2 0, 7, .inl (fun _ => 0))), (q 15, .inl (E.2 0, 7, .inl fm)), (q 12, .inl (E.2 0, 504, .inl (fun _ => 0)))]) (hS : va_S A s.heap H locs) (ls : Array Slot) (hl : lv_has ls 4 [(3, .int 0), (2, .ref h1), (1, .ref x0), (0, .ref b)]) : W p l e room_1 s m #[Value.ref b] below meth c H locs 600000 7302249 (lw_Z below #[Value.ref b] s) (F0 m 464 ls []) := by
  obtain ⟨hx, hb, hr, hml, hown0, hts0, hX, hbl, hlocks, hgv⟩ := id C0
  have hown : s.vm.findClass RL = some m.cls := hown0
  have hts : ∀ w ∈ wsL_law, w.before #[Value.ref b] s = true := fun w h => hts0 w (wsL_law_in w h)
  have hK := hkn.1
  refine lv_aload_n hx hb dL_law_464 rfl (lv_at hl 2 rfl) ?_
  refine lv_aload_n hx hb dL_law_465 rfl (lv_at hl 3 rfl) ?_
  refine lv_iload_n hx hb dL_law_466 rfl (lv_at hl 0 rfl) ?_
  refine lv_iconst (v := 1) hx hb dL_law_467 (by decide) ?_
  refine lv_iadd hx hb dL_law_468 ?_
  refine lv_topi (fun x1 ex1 => ?_)
  obtain rfl : x1 = 1 := ex1.trans (by decide +kernel)
  refine va_sld hx hb hX hbl hbA hS (show vp_in 1 6 from by unfold vp_in; decide) dL_law_469 ?_
  refine lv_topi (fun x2 ex2 => ?_)
  obtain rfl : x2 = xs 1 := ex2
  have hPc := hP.sub (ws' := [(x0, .inr (11, [.ref tp, .ref rd, .ref se, .ref ba, .ref of, .ref pl, .ref sr, .ref sc, .int 0])), (ba, .inl (E.2 4, 6, .inr (.inr (.inr (.inr fb))))), (bo, .inr (0, [.ref sp, .ref pa, .int 0, .ref ru, .ref co, .ref tr])), (co, .inr (1, [.ref bx, .int 0, .int 0, .int 9, .int 0])), (rd, .inr (6, [.ref tk, .int 0, .int (-1)])), (tk, .inr (10, [.ref tp, .int 0, .int 0, .int 0, .int 0])), (tp, .inr (9, [.ref by_, .int 0])), (sc, .inr (1, [.ref bx2, .int 0, .int 0, .int 9, .int 0]))]) [0, 1, 2, 3, 4, 5, 6, 7] rfl
  have hDc := hD.sub (ws' := [(x0, .inr (11, [.ref tp, .ref rd, .ref se, .ref ba, .ref of, .ref pl, .ref sr, .ref sc, .int 0])), (ba, .inl (E.2 4, 6, .inr (.inr (.inr (.inr fb))))), (bo, .inr (0, [.ref sp, .ref pa, .int 0, .ref ru, .ref co, .ref tr])), (co, .inr (1, [.ref bx, .int 0, .int 0, .int 9, .int 0])), (rd, .inr (6, [.ref tk, .int 0, .int (-1)])), (tk, .inr (10, [.ref tp, .int 0, .int 0, .int 0, .int 0])), (tp, .inr (9, [.ref by_, .int 0])), (sc, .inr (1, [.ref bx2, .int 0, .int 0, .int 9, .int 0]))]) [0, 1, 2, 3, 4, 5, 6, 7] (by decide) rfl
  have hFc := va_free (wc := [(x0, .inr (11, [.ref tp, .ref rd, .ref se, .ref ba, .ref of, .ref pl, .ref sr, .ref sc, .int 0])), (ba, .inl (E.2 4, 6, .inr (.inr (.inr (.inr fb))))), (bo, .inr (0, [.ref sp, .ref pa, .int 0, .ref ru, .ref co, .ref tr])), (co, .inr (1, [.ref bx, .int 0, .int 0, .int 9, .int 0])), (rd, .inr (6, [.ref tk, .int 0, .int (-1)])), (tk, .inr (10, [.ref tp, .int 0, .int 0, .int 0, .int 0])), (tp, .inr (9, [.ref by_, .int 0])), (sc, .inr (1, [.ref bx2, .int 0, .int 0, .int 9, .int 0]))]) hD hS hA [0, 1, 2, 3, 4, 5, 6, 7] rfl
  refine va_calli (va_runV (As := [.int (xs 1)]) (rest := []) ⟨hx, hb, hml, hown, hts⟩ (c_X11_insurer l E x0 tp rd se ba of pl sr sc bo sp pa ru co tr fb bx tk by_ bx2 (xs 1) H.size hfb) (cwV 1 hts gL_law_X11_insurer rfl rfl rfl (by decide +kernel) ⟨Nat.le_of_ble_eq_true rfl, Nat.le_of_ble_eq_true rfl⟩) ⟨pcW_blind, va_recv hK hPc (ci := 11) (q0 := 0) rfl rfl, (pcW_pre hPc hkn hDc hst hS hFc)⟩ rfl rfl hl.1 rfl (lv_room (Nat.le_of_ble_eq_true rfl)) dL_law_470 ⟨Nat.le_of_ble_eq_true rfl, Nat.le_of_ble_eq_true rfl⟩) hS (fun q _ h => hFc q h) hFc (fun r3 u t H1 locs ht hvm hw4 hB hz1 hk1 hS => ?_)
  obtain ⟨hP1, hD1⟩ := hB
  rw [ht] at hP1
  try dsimp only at hw4
  obtain ⟨hP, hD⟩ := va_join (wr := [(h1, .inr (12, mO q)), (q 13, .inl (E.2 0, 7, .inl (fun _ => 0))), (q 14, .inl (E.2 0, 7, .inl (fun _ => 0))), (q 15, .inl (E.2 0, 7, .inl fm)), (q 12, .inl (E.2 0, 504, .inl (fun _ => 0)))]) (w1 := []) hP hD [0, 1, 2, 3, 4, 5, 6, 7] [8, 9, 10, 11, 12] rfl rfl (by decide) (by decide) hk1 hFc hP1 hD1
  generalize H1 = H at hP hS ⊢
  have hP : va_P E.1 vwCl [(h1, .inr (12, mO q)), (q 13, .inl (E.2 0, 7, .inl (fun _ => 0))), (q 14, .inl (E.2 0, 7, .inl (fun _ => 0))), (q 15, .inl (E.2 0, 7, .inl fm)), (q 12, .inl (E.2 0, 504, .inl (fun _ => 0)))] H := hP
  have hD : va_D A [(h1, .inr (12, mO q)), (q 13, .inl (E.2 0, 7, .inl (fun _ => 0))), (q 14, .inl (E.2 0, 7, .inl (fun _ => 0))), (q 15, .inl (E.2 0, 7, .inl fm)), (q 12, .inl (E.2 0, 504, .inl (fun _ => 0)))] := hD
  refine lv_aload_n hx hb dL_law_473 rfl (lv_at hl 1 rfl) ?_
  refine lv_aload_n hx hb dL_law_474 rfl (lv_at hl 3 rfl) ?_
  refine lv_iload_n hx hb dL_law_475 rfl (lv_at hl 0 rfl) ?_
  refine lv_iconst (v := 1) hx hb dL_law_476 (by decide) ?_
  refine lv_iadd hx hb dL_law_477 ?_
  refine lv_topi (fun x5 ex5 => ?_)
  obtain rfl : x5 = 1 := ex5.trans (by decide +kernel)
  refine va_sld hx hb hX hbl hbA hS (show vp_in 1 6 from by unfold vp_in; decide) dL_law_478 ?_
  refine lv_topi (fun x6 ex6 => ?_)
  obtain rfl : x6 = xs 1 := ex6
  have hPc := hP.sub (ws' := [(h1, .inr (12, mO q)), (q 13, .inl (E.2 0, 7, .inl (fun _ => 0))), (q 14, .inl (E.2 0, 7, .inl (fun _ => 0))), (q 15, .inl (E.2 0, 7, .inl fm)), (q 12, .inl (E.2 0, 504, .inl (fun _ => 0)))]) [0, 1, 2, 3, 4] rfl
  have hDc := hD.sub (ws' := [(h1, .inr (12, mO q)), (q 13, .inl (E.2 0, 7, .inl (fun _ => 0))), (q 14, .inl (E.2 0, 7, .inl (fun _ => 0))), (q 15, .inl (E.2 0, 7, .inl fm)), (q 12, .inl (E.2 0, 504, .inl (fun _ => 0)))]) [0, 1, 2, 3, 4] (by decide) rfl
  have hFc := va_free (wc := [(h1, .inr (12, mO q)), (q 13, .inl (E.2 0, 7, .inl (fun _ => 0))), (q 14, .inl (E.2 0, 7, .inl (fun _ => 0))), (q 15, .inl (E.2 0, 7, .inl fm)), (q 12, .inl (E.2 0, 504, .inl (fun _ => 0)))]) hD hS hA [0, 1, 2, 3, 4] rfl
  refine va_calli (va_runV (As := [.int (xs 1)]) (rest := [.int r3]) ⟨hx, hb, hml, hown, hts⟩ (c_X12_insurer l E h1 q fm (xs 1) H.size ) (cwV 1 hts gL_law_X12_insurer rfl rfl rfl (by decide +kernel) ⟨Nat.le_of_ble_eq_true rfl, Nat.le_of_ble_eq_true rfl⟩) ⟨pcW_blind, va_recv hK hPc (ci := 12) (q0 := 0) rfl rfl, (pcW_pre hPc hkn hDc hst hS hFc)⟩ rfl rfl hl.1 rfl (lv_room (Nat.le_of_ble_eq_true rfl)) dL_law_479 ⟨Nat.le_of_ble_eq_true rfl, Nat.le_of_ble_eq_true rfl⟩) hS (fun q _ h => hFc q h) hFc (fun r7 u t H1 locs ht hvm hw8 hB hz1 hk1 hS => ?_)
  obtain ⟨hP1, hD1⟩ := hB
  rw [ht] at hP1
  try dsimp only at hw8
  obtain ⟨hP, hD⟩ := va_join (wr := []) (w1 := []) hP hD [0, 1, 2, 3, 4] [] rfl rfl (by decide) (by decide) hk1 hFc hP1 hD1
  generalize H1 = H at hP hS ⊢
  have hP : va_P E.1 vwCl [] H := hP
  have hD : va_D A [] := hD
  refine lv_icmp_eq (tgt := 1029) hx hb dL_law_482 (by decide) (fun c9 => ?_) (fun c9 => absurd c9 (fun h => h (hw4.trans hw8.symm)))
  exact law_end l C0 hA hbA hAs _ _ hS _ _ _ (lv_sub hl [0, 1, 2, 3] rfl)
set_option maxHeartbeats 4000000 in
set_option maxRecDepth 100000 in
theorem op_fault {p : Program} {e : Env} {s : State} {m : MethodId} {below : List Frame} {meth : Method} {c : Code} (l : Launch) {b : Nat} {xs : Nat → Int32} (C0 : lw_At p s m meth c b 6 xs) {A : Nat → Prop} (hA : ∀ q : Nat, s.heap.size ≤ q → A q) (hbA : ¬ A b) (hAs : ∀ q : Nat, A q → s.heap.size ≤ q) (E : vE) (hkn : kn E s) (hst : st A s s.heap) (x0 h1 : Nat) (tp : Nat) (rd : Nat) (se : Nat) (ba : Nat) (of : Nat) (pl : Nat) (sr : Nat) (sc : Nat) (tk : Nat) (q : Nat → Nat) (H : Heap) (locs : List Loc) (hP : va_P E.1 vwCl [(x0, .inr (11, [.ref tp, .ref rd, .ref se, .ref ba, .ref of, .ref pl, .ref sr, .ref sc, .int 0])), (rd, .inr (6, [.ref tk, .int 0, .int (-1)])), (h1, .inr (12, mO q))] H) (hD : va_D A [(x0, .inr (11, [.ref tp, .ref rd, .ref se, .ref ba, .ref of, .ref pl, .ref sr, .ref sc, .int 0])), (rd, .inr (6, [.ref tk, .int 0, .int (-1)])), (h1, .inr (12, mO q))]) (hS : va_S A s.heap H locs) (ls : Array Slot) (hl : lv_has ls 4 [(3, .int 0), (2, .ref h1), (1, .ref x0), (0, .ref b)]) : W p l e room_1 s m #[Value.ref b] below meth c H locs 600000 7302249 (lw_Z below #[Value.ref b] s) (F0 m 487 ls []) := by
  obtain ⟨hx, hb, hr, hml, hown0, hts0, hX, hbl, hlocks, hgv⟩ := id C0
  have hown : s.vm.findClass RL = some m.cls := hown0
  have hts : ∀ w ∈ wsL_law, w.before #[Value.ref b] s = true := fun w h => hts0 w (wsL_law_in w h)
  have hK := hkn.1
  refine lv_aload_n hx hb dL_law_487 rfl (lv_at hl 2 rfl) ?_
  refine lv_aload_n hx hb dL_law_488 rfl (lv_at hl 3 rfl) ?_
  refine lv_iload_n hx hb dL_law_489 rfl (lv_at hl 0 rfl) ?_
  refine lv_iconst (v := 1) hx hb dL_law_490 (by decide) ?_
  refine lv_iadd hx hb dL_law_491 ?_
  refine lv_topi (fun x1 ex1 => ?_)
  obtain rfl : x1 = 1 := ex1.trans (by decide +kernel)
  refine va_sld hx hb hX hbl hbA hS (show vp_in 1 6 from by unfold vp_in; decide) dL_law_492 ?_
  refine lv_topi (fun x2 ex2 => ?_)
  obtain rfl : x2 = xs 1 := ex2
  have hPc := hP.sub (ws' := [(x0, .inr (11, [.ref tp, .ref rd, .ref se, .ref ba, .ref of, .ref pl, .ref sr, .ref sc, .int 0])), (rd, .inr (6, [.ref tk, .int 0, .int (-1)]))]) [0, 1] rfl
  have hDc := hD.sub (ws' := [(x0, .inr (11, [.ref tp, .ref rd, .ref se, .ref ba, .ref of, .ref pl, .ref sr, .ref sc, .int 0])), (rd, .inr (6, [.ref tk, .int 0, .int (-1)]))]) [0, 1] (by decide) rfl
  have hFc := va_free (wc := [(x0, .inr (11, [.ref tp, .ref rd, .ref se, .ref ba, .ref of, .ref pl, .ref sr, .ref sc, .int 0])), (rd, .inr (6, [.ref tk, .int 0, .int (-1)]))]) hD hS hA [0, 1] rfl
  refine va_calli (va_runV (As := [.int (xs 1)]) (rest := []) ⟨hx, hb, hml, hown, hts⟩ (c_X11_fault l E x0 tp rd se ba of pl sr sc tk (xs 1) H.size ) (cwV 1 hts gL_law_X11_fault rfl rfl rfl (by decide +kernel) ⟨Nat.le_of_ble_eq_true rfl, Nat.le_of_ble_eq_true rfl⟩) ⟨pcW_blind, va_recv hK hPc (ci := 11) (q0 := 0) rfl rfl, (pcW_pre hPc hkn hDc hst hS hFc)⟩ rfl rfl hl.1 rfl (lv_room (Nat.le_of_ble_eq_true rfl)) dL_law_493 ⟨Nat.le_of_ble_eq_true rfl, Nat.le_of_ble_eq_true rfl⟩) hS (fun q _ h => hFc q h) hFc (fun r3 u t H1 locs ht hvm hw4 hB hz1 hk1 hS => ?_)
  obtain ⟨hP1, hD1⟩ := hB
  rw [ht] at hP1
  try dsimp only at hw4
  obtain ⟨hP, hD⟩ := va_join (wr := [(h1, .inr (12, mO q))]) (w1 := []) hP hD [0, 1] [2] rfl rfl (by decide) (by decide) hk1 hFc hP1 hD1
  generalize H1 = H at hP hS ⊢
  have hP : va_P E.1 vwCl [(h1, .inr (12, mO q))] H := hP
  have hD : va_D A [(h1, .inr (12, mO q))] := hD
  refine lv_aload_n hx hb dL_law_496 rfl (lv_at hl 1 rfl) ?_
  refine lv_aload_n hx hb dL_law_497 rfl (lv_at hl 3 rfl) ?_
  refine lv_iload_n hx hb dL_law_498 rfl (lv_at hl 0 rfl) ?_
  refine lv_iconst (v := 1) hx hb dL_law_499 (by decide) ?_
  refine lv_iadd hx hb dL_law_500 ?_
  refine lv_topi (fun x5 ex5 => ?_)
  obtain rfl : x5 = 1 := ex5.trans (by decide +kernel)
  refine va_sld hx hb hX hbl hbA hS (show vp_in 1 6 from by unfold vp_in; decide) dL_law_501 ?_
  refine lv_topi (fun x6 ex6 => ?_)
  obtain rfl : x6 = xs 1 := ex6
  have hPc := hP.sub (ws' := [(h1, .inr (12, mO q))]) [0] rfl
  have hDc := hD.sub (ws' := [(h1, .inr (12, mO q))]) [0] (by decide) rfl
  have hFc := va_free (wc := [(h1, .inr (12, mO q))]) hD hS hA [0] rfl
  refine va_calli (va_runV (As := [.int (xs 1)]) (rest := [.int r3]) ⟨hx, hb, hml, hown, hts⟩ (c_X12_fault l E h1 q (xs 1) H.size ) (cwV 1 hts gL_law_X12_fault rfl rfl rfl (by decide +kernel) ⟨Nat.le_of_ble_eq_true rfl, Nat.le_of_ble_eq_true rfl⟩) ⟨pcW_blind, va_recv hK hPc (ci := 12) (q0 := 0) rfl rfl, (pcW_pre hPc hkn hDc hst hS hFc)⟩ rfl rfl hl.1 rfl (lv_room (Nat.le_of_ble_eq_true rfl)) dL_law_502 ⟨Nat.le_of_ble_eq_true rfl, Nat.le_of_ble_eq_true rfl⟩) hS (fun q _ h => hFc q h) hFc (fun r7 u t H1 locs ht hvm hw8 hB hz1 hk1 hS => ?_)
  obtain ⟨hP1, hD1⟩ := hB
  rw [ht] at hP1
  try dsimp only at hw8
  obtain ⟨hP, hD⟩ := va_join (wr := []) (w1 := []) hP hD [0] [] rfl rfl (by decide) (by decide) hk1 hFc hP1 hD1
  generalize H1 = H at hP hS ⊢
  have hP : va_P E.1 vwCl [] H := hP
  have hD : va_D A [] := hD
  refine lv_icmp_eq (tgt := 1029) hx hb dL_law_505 (by decide) (fun c9 => ?_) (fun c9 => absurd c9 (fun h => h (hw4.trans hw8.symm)))
  exact law_end l C0 hA hbA hAs _ _ hS _ _ _ (lv_sub hl [0, 1, 2, 3] rfl)
set_option maxHeartbeats 4000000 in
set_option maxRecDepth 100000 in
theorem op_covers {p : Program} {e : Env} {s : State} {m : MethodId} {below : List Frame} {meth : Method} {c : Code} (l : Launch) {b : Nat} {xs : Nat → Int32} (C0 : lw_At p s m meth c b 6 xs) {A : Nat → Prop} (hA : ∀ q : Nat, s.heap.size ≤ q → A q) (hbA : ¬ A b) (hAs : ∀ q : Nat, A q → s.heap.size ≤ q) (E : vE) (hkn : kn E s) (hst : st A s s.heap) (x0 h1 : Nat) (tp : Nat) (rd : Nat) (se : Nat) (ba : Nat) (of : Nat) (pl : Nat) (sr : Nat) (sc : Nat) (bo : Nat) (sp : Nat) (pa : Nat) (ru : Nat) (co : Nat) (tr : Nat) (fb : Nat → Option Nat) (bx : Nat) (q : Nat → Nat) (fm : Nat → Int32) (hfb : inR (xs 1) 0 5 = true → fb (xs 1).toNatClampNeg = some bo) (mhfm : ∀ k, k < 7 → fm k = 9) (H : Heap) (locs : List Loc) (hP : va_P E.1 vwCl [(x0, .inr (11, [.ref tp, .ref rd, .ref se, .ref ba, .ref of, .ref pl, .ref sr, .ref sc, .int 0])), (ba, .inl (E.2 4, 6, .inr (.inr (.inr (.inr fb))))), (bo, .inr (0, [.ref sp, .ref pa, .int 0, .ref ru, .ref co, .ref tr])), (co, .inr (1, [.ref bx, .int 0, .int 0, .int 9, .int 0])), (h1, .inr (12, mO q)), (q 14, .inl (E.2 0, 7, .inl (fun _ => 0))), (q 15, .inl (E.2 0, 7, .inl fm)), (q 13, .inl (E.2 0, 7, .inl (fun _ => 0)))] H) (hD : va_D A [(x0, .inr (11, [.ref tp, .ref rd, .ref se, .ref ba, .ref of, .ref pl, .ref sr, .ref sc, .int 0])), (ba, .inl (E.2 4, 6, .inr (.inr (.inr (.inr fb))))), (bo, .inr (0, [.ref sp, .ref pa, .int 0, .ref ru, .ref co, .ref tr])), (co, .inr (1, [.ref bx, .int 0, .int 0, .int 9, .int 0])), (h1, .inr (12, mO q)), (q 14, .inl (E.2 0, 7, .inl (fun _ => 0))), (q 15, .inl (E.2 0, 7, .inl fm)), (q 13, .inl (E.2 0, 7, .inl (fun _ => 0)))]) (hS : va_S A s.heap H locs) (ls : Array Slot) (hl : lv_has ls 4 [(3, .int 0), (2, .ref h1), (1, .ref x0), (0, .ref b)]) : W p l e room_1 s m #[Value.ref b] below meth c H locs 600000 7302249 (lw_Z below #[Value.ref b] s) (F0 m 510 ls []) := by
  obtain ⟨hx, hb, hr, hml, hown0, hts0, hX, hbl, hlocks, hgv⟩ := id C0
  have hown : s.vm.findClass RL = some m.cls := hown0
  have hts : ∀ w ∈ wsL_law, w.before #[Value.ref b] s = true := fun w h => hts0 w (wsL_law_in w h)
  have hK := hkn.1
  refine lv_aload_n hx hb dL_law_510 rfl (lv_at hl 2 rfl) ?_
  refine lv_aload_n hx hb dL_law_511 rfl (lv_at hl 3 rfl) ?_
  refine lv_iload_n hx hb dL_law_512 rfl (lv_at hl 0 rfl) ?_
  refine lv_iconst (v := 1) hx hb dL_law_513 (by decide) ?_
  refine lv_iadd hx hb dL_law_514 ?_
  refine lv_topi (fun x1 ex1 => ?_)
  obtain rfl : x1 = 1 := ex1.trans (by decide +kernel)
  refine va_sld hx hb hX hbl hbA hS (show vp_in 1 6 from by unfold vp_in; decide) dL_law_515 ?_
  refine lv_topi (fun x2 ex2 => ?_)
  obtain rfl : x2 = xs 1 := ex2
  refine lv_aload_n hx hb dL_law_516 rfl (lv_at hl 3 rfl) ?_
  refine lv_iload_n hx hb dL_law_517 rfl (lv_at hl 0 rfl) ?_
  refine lv_iconst (v := 2) hx hb dL_law_518 (by decide) ?_
  refine lv_iadd hx hb dL_law_519 ?_
  refine lv_topi (fun x3 ex3 => ?_)
  obtain rfl : x3 = 2 := ex3.trans (by decide +kernel)
  refine va_sld hx hb hX hbl hbA hS (show vp_in 2 6 from by unfold vp_in; decide) dL_law_520 ?_
  refine lv_topi (fun x4 ex4 => ?_)
  obtain rfl : x4 = xs 2 := ex4
  refine lv_aload_n hx hb dL_law_521 rfl (lv_at hl 3 rfl) ?_
  refine lv_iload_n hx hb dL_law_522 rfl (lv_at hl 0 rfl) ?_
  refine lv_iconst (v := 3) hx hb dL_law_523 (by decide) ?_
  refine lv_iadd hx hb dL_law_524 ?_
  refine lv_topi (fun x5 ex5 => ?_)
  obtain rfl : x5 = 3 := ex5.trans (by decide +kernel)
  refine va_sld hx hb hX hbl hbA hS (show vp_in 3 6 from by unfold vp_in; decide) dL_law_525 ?_
  refine lv_topi (fun x6 ex6 => ?_)
  obtain rfl : x6 = xs 3 := ex6
  refine lv_aload_n hx hb dL_law_526 rfl (lv_at hl 3 rfl) ?_
  refine lv_iload_n hx hb dL_law_527 rfl (lv_at hl 0 rfl) ?_
  refine lv_iconst (v := 4) hx hb dL_law_528 (by decide) ?_
  refine lv_iadd hx hb dL_law_529 ?_
  refine lv_topi (fun x7 ex7 => ?_)
  obtain rfl : x7 = 4 := ex7.trans (by decide +kernel)
  refine va_sld hx hb hX hbl hbA hS (show vp_in 4 6 from by unfold vp_in; decide) dL_law_530 ?_
  refine lv_topi (fun x8 ex8 => ?_)
  obtain rfl : x8 = xs 4 := ex8
  refine lv_aload_n hx hb dL_law_531 rfl (lv_at hl 3 rfl) ?_
  refine lv_iload_n hx hb dL_law_532 rfl (lv_at hl 0 rfl) ?_
  refine lv_iconst (v := 5) hx hb dL_law_533 (by decide) ?_
  refine lv_iadd hx hb dL_law_534 ?_
  refine lv_topi (fun x9 ex9 => ?_)
  obtain rfl : x9 = 5 := ex9.trans (by decide +kernel)
  refine va_sld hx hb hX hbl hbA hS (show vp_in 5 6 from by unfold vp_in; decide) dL_law_535 ?_
  refine lv_topi (fun x10 ex10 => ?_)
  obtain rfl : x10 = xs 5 := ex10
  have hPc := hP.sub (ws' := [(x0, .inr (11, [.ref tp, .ref rd, .ref se, .ref ba, .ref of, .ref pl, .ref sr, .ref sc, .int 0])), (ba, .inl (E.2 4, 6, .inr (.inr (.inr (.inr fb))))), (bo, .inr (0, [.ref sp, .ref pa, .int 0, .ref ru, .ref co, .ref tr])), (co, .inr (1, [.ref bx, .int 0, .int 0, .int 9, .int 0]))]) [0, 1, 2, 3] rfl
  have hDc := hD.sub (ws' := [(x0, .inr (11, [.ref tp, .ref rd, .ref se, .ref ba, .ref of, .ref pl, .ref sr, .ref sc, .int 0])), (ba, .inl (E.2 4, 6, .inr (.inr (.inr (.inr fb))))), (bo, .inr (0, [.ref sp, .ref pa, .int 0, .ref ru, .ref co, .ref tr])), (co, .inr (1, [.ref bx, .int 0, .int 0, .int 9, .int 0]))]) [0, 1, 2, 3] (by decide) rfl
  have hFc := va_free (wc := [(x0, .inr (11, [.ref tp, .ref rd, .ref se, .ref ba, .ref of, .ref pl, .ref sr, .ref sc, .int 0])), (ba, .inl (E.2 4, 6, .inr (.inr (.inr (.inr fb))))), (bo, .inr (0, [.ref sp, .ref pa, .int 0, .ref ru, .ref co, .ref tr])), (co, .inr (1, [.ref bx, .int 0, .int 0, .int 9, .int 0]))]) hD hS hA [0, 1, 2, 3] rfl
  refine va_calli (va_runV (As := [.int (xs 1), .int (xs 2), .int (xs 3), .int (xs 4), .int (xs 5)]) (rest := []) ⟨hx, hb, hml, hown, hts⟩ (c_X11_covers l E x0 tp rd se ba of pl sr sc bo sp pa ru co tr fb bx (xs 1) (xs 2) (xs 3) (xs 4) (xs 5) H.size hfb) (cwV 5 hts gL_law_X11_covers rfl rfl rfl (by decide +kernel) ⟨Nat.le_of_ble_eq_true rfl, Nat.le_of_ble_eq_true rfl⟩) ⟨pcW_blind, va_recv hK hPc (ci := 11) (q0 := 0) rfl rfl, (pcW_pre hPc hkn hDc hst hS hFc)⟩ rfl rfl hl.1 rfl (lv_room (Nat.le_of_ble_eq_true rfl)) dL_law_536 ⟨Nat.le_of_ble_eq_true rfl, Nat.le_of_ble_eq_true rfl⟩) hS (fun q _ h => hFc q h) hFc (fun r11 u t H1 locs ht hvm hw12 hB hz1 hk1 hS => ?_)
  obtain ⟨hP1, hD1⟩ := hB
  rw [ht] at hP1
  try dsimp only at hw12
  obtain ⟨hP, hD⟩ := va_join (wr := [(h1, .inr (12, mO q)), (q 14, .inl (E.2 0, 7, .inl (fun _ => 0))), (q 15, .inl (E.2 0, 7, .inl fm)), (q 13, .inl (E.2 0, 7, .inl (fun _ => 0)))]) (w1 := []) hP hD [0, 1, 2, 3] [4, 5, 6, 7] rfl rfl (by decide) (by decide) hk1 hFc hP1 hD1
  generalize H1 = H at hP hS ⊢
  have hP : va_P E.1 vwCl [(h1, .inr (12, mO q)), (q 14, .inl (E.2 0, 7, .inl (fun _ => 0))), (q 15, .inl (E.2 0, 7, .inl fm)), (q 13, .inl (E.2 0, 7, .inl (fun _ => 0)))] H := hP
  have hD : va_D A [(h1, .inr (12, mO q)), (q 14, .inl (E.2 0, 7, .inl (fun _ => 0))), (q 15, .inl (E.2 0, 7, .inl fm)), (q 13, .inl (E.2 0, 7, .inl (fun _ => 0)))] := hD
  refine lv_aload_n hx hb dL_law_539 rfl (lv_at hl 1 rfl) ?_
  refine lv_aload_n hx hb dL_law_540 rfl (lv_at hl 3 rfl) ?_
  refine lv_iload_n hx hb dL_law_541 rfl (lv_at hl 0 rfl) ?_
  refine lv_iconst (v := 1) hx hb dL_law_542 (by decide) ?_
  refine lv_iadd hx hb dL_law_543 ?_
  refine lv_topi (fun x13 ex13 => ?_)
  obtain rfl : x13 = 1 := ex13.trans (by decide +kernel)
  refine va_sld hx hb hX hbl hbA hS (show vp_in 1 6 from by unfold vp_in; decide) dL_law_544 ?_
  refine lv_topi (fun x14 ex14 => ?_)
  obtain rfl : x14 = xs 1 := ex14
  refine lv_aload_n hx hb dL_law_545 rfl (lv_at hl 3 rfl) ?_
  refine lv_iload_n hx hb dL_law_546 rfl (lv_at hl 0 rfl) ?_
  refine lv_iconst (v := 2) hx hb dL_law_547 (by decide) ?_
  refine lv_iadd hx hb dL_law_548 ?_
  refine lv_topi (fun x15 ex15 => ?_)
  obtain rfl : x15 = 2 := ex15.trans (by decide +kernel)
  refine va_sld hx hb hX hbl hbA hS (show vp_in 2 6 from by unfold vp_in; decide) dL_law_549 ?_
  refine lv_topi (fun x16 ex16 => ?_)
  obtain rfl : x16 = xs 2 := ex16
  refine lv_aload_n hx hb dL_law_550 rfl (lv_at hl 3 rfl) ?_
  refine lv_iload_n hx hb dL_law_551 rfl (lv_at hl 0 rfl) ?_
  refine lv_iconst (v := 3) hx hb dL_law_552 (by decide) ?_
  refine lv_iadd hx hb dL_law_553 ?_
  refine lv_topi (fun x17 ex17 => ?_)
  obtain rfl : x17 = 3 := ex17.trans (by decide +kernel)
  refine va_sld hx hb hX hbl hbA hS (show vp_in 3 6 from by unfold vp_in; decide) dL_law_554 ?_
  refine lv_topi (fun x18 ex18 => ?_)
  obtain rfl : x18 = xs 3 := ex18
  refine lv_aload_n hx hb dL_law_555 rfl (lv_at hl 3 rfl) ?_
  refine lv_iload_n hx hb dL_law_556 rfl (lv_at hl 0 rfl) ?_
  refine lv_iconst (v := 4) hx hb dL_law_557 (by decide) ?_
  refine lv_iadd hx hb dL_law_558 ?_
  refine lv_topi (fun x19 ex19 => ?_)
  obtain rfl : x19 = 4 := ex19.trans (by decide +kernel)
  refine va_sld hx hb hX hbl hbA hS (show vp_in 4 6 from by unfold vp_in; decide) dL_law_559 ?_
  refine lv_topi (fun x20 ex20 => ?_)
  obtain rfl : x20 = xs 4 := ex20
  refine lv_aload_n hx hb dL_law_560 rfl (lv_at hl 3 rfl) ?_
  refine lv_iload_n hx hb dL_law_561 rfl (lv_at hl 0 rfl) ?_
  refine lv_iconst (v := 5) hx hb dL_law_562 (by decide) ?_
  refine lv_iadd hx hb dL_law_563 ?_
  refine lv_topi (fun x21 ex21 => ?_)
  obtain rfl : x21 = 5 := ex21.trans (by decide +kernel)
  refine va_sld hx hb hX hbl hbA hS (show vp_in 5 6 from by unfold vp_in; decide) dL_law_564 ?_
  refine lv_topi (fun x22 ex22 => ?_)
  obtain rfl : x22 = xs 5 := ex22
  have hPc := hP.sub (ws' := [(h1, .inr (12, mO q)), (q 14, .inl (E.2 0, 7, .inl (fun _ => 0))), (q 15, .inl (E.2 0, 7, .inl fm)), (q 13, .inl (E.2 0, 7, .inl (fun _ => 0)))]) [0, 1, 2, 3] rfl
  have hDc := hD.sub (ws' := [(h1, .inr (12, mO q)), (q 14, .inl (E.2 0, 7, .inl (fun _ => 0))), (q 15, .inl (E.2 0, 7, .inl fm)), (q 13, .inl (E.2 0, 7, .inl (fun _ => 0)))]) [0, 1, 2, 3] (by decide) rfl
  have hFc := va_free (wc := [(h1, .inr (12, mO q)), (q 14, .inl (E.2 0, 7, .inl (fun _ => 0))), (q 15, .inl (E.2 0, 7, .inl fm)), (q 13, .inl (E.2 0, 7, .inl (fun _ => 0)))]) hD hS hA [0, 1, 2, 3] rfl
  refine va_calli (va_runV (As := [.int (xs 1), .int (xs 2), .int (xs 3), .int (xs 4), .int (xs 5)]) (rest := [.int r11]) ⟨hx, hb, hml, hown, hts⟩ (c_X12_covers l E h1 q fm (xs 1) (xs 2) (xs 3) (xs 4) (xs 5) H.size mhfm) (cwV 5 hts gL_law_X12_covers rfl rfl rfl (by decide +kernel) ⟨Nat.le_of_ble_eq_true rfl, Nat.le_of_ble_eq_true rfl⟩) ⟨pcW_blind, va_recv hK hPc (ci := 12) (q0 := 0) rfl rfl, (pcW_pre hPc hkn hDc hst hS hFc)⟩ rfl rfl hl.1 rfl (lv_room (Nat.le_of_ble_eq_true rfl)) dL_law_565 ⟨Nat.le_of_ble_eq_true rfl, Nat.le_of_ble_eq_true rfl⟩) hS (fun q _ h => hFc q h) hFc (fun r23 u t H1 locs ht hvm hw24 hB hz1 hk1 hS => ?_)
  obtain ⟨hP1, hD1⟩ := hB
  rw [ht] at hP1
  try dsimp only at hw24
  obtain ⟨hP, hD⟩ := va_join (wr := []) (w1 := []) hP hD [0, 1, 2, 3] [] rfl rfl (by decide) (by decide) hk1 hFc hP1 hD1
  generalize H1 = H at hP hS ⊢
  have hP : va_P E.1 vwCl [] H := hP
  have hD : va_D A [] := hD
  refine lv_icmp_eq (tgt := 1029) hx hb dL_law_568 (by decide) (fun c9 => ?_) (fun c9 => absurd c9 (fun h => h (hw12.trans hw24.symm)))
  exact law_end l C0 hA hbA hAs _ _ hS _ _ _ (lv_sub hl [0, 1, 2, 3] rfl)
set_option maxHeartbeats 4000000 in
set_option maxRecDepth 100000 in
theorem op_begin {p : Program} {e : Env} {s : State} {m : MethodId} {below : List Frame} {meth : Method} {c : Code} (l : Launch) {b : Nat} {xs : Nat → Int32} (C0 : lw_At p s m meth c b 6 xs) {A : Nat → Prop} (hA : ∀ q : Nat, s.heap.size ≤ q → A q) (hbA : ¬ A b) (hAs : ∀ q : Nat, A q → s.heap.size ≤ q) (E : vE) (hkn : kn E s) (hst : st A s s.heap) (x0 h1 : Nat) (tp : Nat) (rd : Nat) (se : Nat) (ba : Nat) (of : Nat) (pl : Nat) (sr : Nat) (sc : Nat) (bo : Nat) (sp : Nat) (pa : Nat) (ru : Nat) (co : Nat) (tr : Nat) (fb : Nat → Option Nat) (wy : Nat) (wi : Nat) (po : Nat) (q : Nat → Nat) (hfb : inR (xs 1) 0 5 = true → fb (xs 1).toNatClampNeg = some bo) (H : Heap) (locs : List Loc) (hP : va_P E.1 vwCl [(x0, .inr (11, [.ref tp, .ref rd, .ref se, .ref ba, .ref of, .ref pl, .ref sr, .ref sc, .int 0])), (ba, .inl (E.2 4, 6, .inr (.inr (.inr (.inr fb))))), (bo, .inr (0, [.ref sp, .ref pa, .int 0, .ref ru, .ref co, .ref tr])), (tr, .inr (4, [.ref wy, .int 0, .int 0, .int (-1), .int 0, .int 0, .int 0, .int 0, .int 0, .int 0, .int 0, .int 0, .int 0, .int 0, .int (-1), .int 0])), (se, .inr (8, [.ref wi, .ref po])), (po, .inl (E.2 0, 10, .inl (fun _ => 0))), (h1, .inr (12, mO q)), (q 24, .inl (E.2 1, 6, .inl (fun _ => 0))), (q 25, .inl (E.2 0, 6, .inl (fun _ => 0))), (q 19, .inl (E.2 0, 10, .inl (fun _ => 0))), (q 26, .inl (E.2 0, 6, .inl (fun _ => 0))), (q 33, .inl (E.2 0, 6, .inl (fun _ => 0))), (q 27, .inl (E.2 0, 6, .inl (fun _ => 0))), (q 28, .inl (E.2 0, 6, .inl (fun _ => 0))), (q 30, .inl (E.2 0, 6, .inl (fun _ => 0))), (q 31, .inl (E.2 0, 6, .inl (fun _ => 0))), (q 32, .inl (E.2 0, 6, .inl (fun _ => 0))), (q 34, .inl (E.2 0, 6, .inl (fun _ => 0))), (q 35, .inl (E.2 1, 6, .inl (fun _ => 0))), (q 36, .inl (E.2 0, 6, .inl (fun _ => 0))), (q 37, .inl (E.2 0, 6, .inl (fun _ => 0))), (q 38, .inl (E.2 0, 6, .inl (fun _ => 0))), (q 39, .inl (E.2 0, 6, .inl (fun _ => 0))), (q 40, .inl (E.2 0, 6, .inl (fun _ => 0)))] H) (hD : va_D A [(x0, .inr (11, [.ref tp, .ref rd, .ref se, .ref ba, .ref of, .ref pl, .ref sr, .ref sc, .int 0])), (ba, .inl (E.2 4, 6, .inr (.inr (.inr (.inr fb))))), (bo, .inr (0, [.ref sp, .ref pa, .int 0, .ref ru, .ref co, .ref tr])), (tr, .inr (4, [.ref wy, .int 0, .int 0, .int (-1), .int 0, .int 0, .int 0, .int 0, .int 0, .int 0, .int 0, .int 0, .int 0, .int 0, .int (-1), .int 0])), (se, .inr (8, [.ref wi, .ref po])), (po, .inl (E.2 0, 10, .inl (fun _ => 0))), (h1, .inr (12, mO q)), (q 24, .inl (E.2 1, 6, .inl (fun _ => 0))), (q 25, .inl (E.2 0, 6, .inl (fun _ => 0))), (q 19, .inl (E.2 0, 10, .inl (fun _ => 0))), (q 26, .inl (E.2 0, 6, .inl (fun _ => 0))), (q 33, .inl (E.2 0, 6, .inl (fun _ => 0))), (q 27, .inl (E.2 0, 6, .inl (fun _ => 0))), (q 28, .inl (E.2 0, 6, .inl (fun _ => 0))), (q 30, .inl (E.2 0, 6, .inl (fun _ => 0))), (q 31, .inl (E.2 0, 6, .inl (fun _ => 0))), (q 32, .inl (E.2 0, 6, .inl (fun _ => 0))), (q 34, .inl (E.2 0, 6, .inl (fun _ => 0))), (q 35, .inl (E.2 1, 6, .inl (fun _ => 0))), (q 36, .inl (E.2 0, 6, .inl (fun _ => 0))), (q 37, .inl (E.2 0, 6, .inl (fun _ => 0))), (q 38, .inl (E.2 0, 6, .inl (fun _ => 0))), (q 39, .inl (E.2 0, 6, .inl (fun _ => 0))), (q 40, .inl (E.2 0, 6, .inl (fun _ => 0)))]) (hS : va_S A s.heap H locs) (ls : Array Slot) (hl : lv_has ls 4 [(3, .int 0), (2, .ref h1), (1, .ref x0), (0, .ref b)]) : W p l e room_1 s m #[Value.ref b] below meth c H locs 600000 7302249 (lw_Z below #[Value.ref b] s) (F0 m 573 ls []) := by
  obtain ⟨hx, hb, hr, hml, hown0, hts0, hX, hbl, hlocks, hgv⟩ := id C0
  have hown : s.vm.findClass RL = some m.cls := hown0
  have hts : ∀ w ∈ wsL_law, w.before #[Value.ref b] s = true := fun w h => hts0 w (wsL_law_in w h)
  have hK := hkn.1
  refine lv_aload_n hx hb dL_law_573 rfl (lv_at hl 2 rfl) ?_
  refine lv_aload_n hx hb dL_law_574 rfl (lv_at hl 3 rfl) ?_
  refine lv_iload_n hx hb dL_law_575 rfl (lv_at hl 0 rfl) ?_
  refine lv_iconst (v := 1) hx hb dL_law_576 (by decide) ?_
  refine lv_iadd hx hb dL_law_577 ?_
  refine lv_topi (fun x1 ex1 => ?_)
  obtain rfl : x1 = 1 := ex1.trans (by decide +kernel)
  refine va_sld hx hb hX hbl hbA hS (show vp_in 1 6 from by unfold vp_in; decide) dL_law_578 ?_
  refine lv_topi (fun x2 ex2 => ?_)
  obtain rfl : x2 = xs 1 := ex2
  refine lv_aload_n hx hb dL_law_579 rfl (lv_at hl 3 rfl) ?_
  refine lv_iload_n hx hb dL_law_580 rfl (lv_at hl 0 rfl) ?_
  refine lv_iconst (v := 2) hx hb dL_law_581 (by decide) ?_
  refine lv_iadd hx hb dL_law_582 ?_
  refine lv_topi (fun x3 ex3 => ?_)
  obtain rfl : x3 = 2 := ex3.trans (by decide +kernel)
  refine va_sld hx hb hX hbl hbA hS (show vp_in 2 6 from by unfold vp_in; decide) dL_law_583 ?_
  refine lv_topi (fun x4 ex4 => ?_)
  obtain rfl : x4 = xs 2 := ex4
  refine lv_aload_n hx hb dL_law_584 rfl (lv_at hl 3 rfl) ?_
  refine lv_iload_n hx hb dL_law_585 rfl (lv_at hl 0 rfl) ?_
  refine lv_iconst (v := 3) hx hb dL_law_586 (by decide) ?_
  refine lv_iadd hx hb dL_law_587 ?_
  refine lv_topi (fun x5 ex5 => ?_)
  obtain rfl : x5 = 3 := ex5.trans (by decide +kernel)
  refine va_sld hx hb hX hbl hbA hS (show vp_in 3 6 from by unfold vp_in; decide) dL_law_588 ?_
  refine lv_topi (fun x6 ex6 => ?_)
  obtain rfl : x6 = xs 3 := ex6
  refine lv_aload_n hx hb dL_law_589 rfl (lv_at hl 3 rfl) ?_
  refine lv_iload_n hx hb dL_law_590 rfl (lv_at hl 0 rfl) ?_
  refine lv_iconst (v := 4) hx hb dL_law_591 (by decide) ?_
  refine lv_iadd hx hb dL_law_592 ?_
  refine lv_topi (fun x7 ex7 => ?_)
  obtain rfl : x7 = 4 := ex7.trans (by decide +kernel)
  refine va_sld hx hb hX hbl hbA hS (show vp_in 4 6 from by unfold vp_in; decide) dL_law_593 ?_
  refine lv_topi (fun x8 ex8 => ?_)
  obtain rfl : x8 = xs 4 := ex8
  have hPc := hP.sub (ws' := [(x0, .inr (11, [.ref tp, .ref rd, .ref se, .ref ba, .ref of, .ref pl, .ref sr, .ref sc, .int 0])), (ba, .inl (E.2 4, 6, .inr (.inr (.inr (.inr fb))))), (bo, .inr (0, [.ref sp, .ref pa, .int 0, .ref ru, .ref co, .ref tr])), (tr, .inr (4, [.ref wy, .int 0, .int 0, .int (-1), .int 0, .int 0, .int 0, .int 0, .int 0, .int 0, .int 0, .int 0, .int 0, .int 0, .int (-1), .int 0])), (se, .inr (8, [.ref wi, .ref po])), (po, .inl (E.2 0, 10, .inl (fun _ => 0)))]) [0, 1, 2, 3, 4, 5] rfl
  have hDc := hD.sub (ws' := [(x0, .inr (11, [.ref tp, .ref rd, .ref se, .ref ba, .ref of, .ref pl, .ref sr, .ref sc, .int 0])), (ba, .inl (E.2 4, 6, .inr (.inr (.inr (.inr fb))))), (bo, .inr (0, [.ref sp, .ref pa, .int 0, .ref ru, .ref co, .ref tr])), (tr, .inr (4, [.ref wy, .int 0, .int 0, .int (-1), .int 0, .int 0, .int 0, .int 0, .int 0, .int 0, .int 0, .int 0, .int 0, .int 0, .int (-1), .int 0])), (se, .inr (8, [.ref wi, .ref po])), (po, .inl (E.2 0, 10, .inl (fun _ => 0)))]) [0, 1, 2, 3, 4, 5] (by decide) rfl
  have hFc := va_free (wc := [(x0, .inr (11, [.ref tp, .ref rd, .ref se, .ref ba, .ref of, .ref pl, .ref sr, .ref sc, .int 0])), (ba, .inl (E.2 4, 6, .inr (.inr (.inr (.inr fb))))), (bo, .inr (0, [.ref sp, .ref pa, .int 0, .ref ru, .ref co, .ref tr])), (tr, .inr (4, [.ref wy, .int 0, .int 0, .int (-1), .int 0, .int 0, .int 0, .int 0, .int 0, .int 0, .int 0, .int 0, .int 0, .int 0, .int (-1), .int 0])), (se, .inr (8, [.ref wi, .ref po])), (po, .inl (E.2 0, 10, .inl (fun _ => 0)))]) hD hS hA [0, 1, 2, 3, 4, 5] rfl
  refine va_calli (va_runV (As := [.int (xs 1), .int (xs 2), .int (xs 3), .int (xs 4)]) (rest := []) ⟨hx, hb, hml, hown, hts⟩ (c_X11_begin l E x0 tp rd se ba of pl sr sc bo sp pa ru co tr fb wy wi po (xs 1) (xs 2) (xs 3) (xs 4) H.size hfb) (cwV 4 hts gL_law_X11_begin rfl rfl rfl (by decide +kernel) ⟨Nat.le_of_ble_eq_true rfl, Nat.le_of_ble_eq_true rfl⟩) ⟨pcW_blind, va_recv hK hPc (ci := 11) (q0 := 0) rfl rfl, (pcW_pre hPc hkn hDc hst hS hFc)⟩ rfl rfl hl.1 rfl (lv_room (Nat.le_of_ble_eq_true rfl)) dL_law_594 ⟨Nat.le_of_ble_eq_true rfl, Nat.le_of_ble_eq_true rfl⟩) hS (fun q _ h => hFc q h) hFc (fun r9 u t H1 locs ht hvm hw10 hB hz1 hk1 hS => ?_)
  obtain ⟨hP1, hD1⟩ := hB
  rw [ht] at hP1
  try dsimp only at hw10
  obtain ⟨hP, hD⟩ := va_join (wr := [(h1, .inr (12, mO q)), (q 24, .inl (E.2 1, 6, .inl (fun _ => 0))), (q 25, .inl (E.2 0, 6, .inl (fun _ => 0))), (q 19, .inl (E.2 0, 10, .inl (fun _ => 0))), (q 26, .inl (E.2 0, 6, .inl (fun _ => 0))), (q 33, .inl (E.2 0, 6, .inl (fun _ => 0))), (q 27, .inl (E.2 0, 6, .inl (fun _ => 0))), (q 28, .inl (E.2 0, 6, .inl (fun _ => 0))), (q 30, .inl (E.2 0, 6, .inl (fun _ => 0))), (q 31, .inl (E.2 0, 6, .inl (fun _ => 0))), (q 32, .inl (E.2 0, 6, .inl (fun _ => 0))), (q 34, .inl (E.2 0, 6, .inl (fun _ => 0))), (q 35, .inl (E.2 1, 6, .inl (fun _ => 0))), (q 36, .inl (E.2 0, 6, .inl (fun _ => 0))), (q 37, .inl (E.2 0, 6, .inl (fun _ => 0))), (q 38, .inl (E.2 0, 6, .inl (fun _ => 0))), (q 39, .inl (E.2 0, 6, .inl (fun _ => 0))), (q 40, .inl (E.2 0, 6, .inl (fun _ => 0)))]) (w1 := []) hP hD [0, 1, 2, 3, 4, 5] [6, 7, 8, 9, 10, 11, 12, 13, 14, 15, 16, 17, 18, 19, 20, 21, 22, 23] rfl rfl (by decide) (by decide) hk1 hFc hP1 hD1
  generalize H1 = H at hP hS ⊢
  have hP : va_P E.1 vwCl [(h1, .inr (12, mO q)), (q 24, .inl (E.2 1, 6, .inl (fun _ => 0))), (q 25, .inl (E.2 0, 6, .inl (fun _ => 0))), (q 19, .inl (E.2 0, 10, .inl (fun _ => 0))), (q 26, .inl (E.2 0, 6, .inl (fun _ => 0))), (q 33, .inl (E.2 0, 6, .inl (fun _ => 0))), (q 27, .inl (E.2 0, 6, .inl (fun _ => 0))), (q 28, .inl (E.2 0, 6, .inl (fun _ => 0))), (q 30, .inl (E.2 0, 6, .inl (fun _ => 0))), (q 31, .inl (E.2 0, 6, .inl (fun _ => 0))), (q 32, .inl (E.2 0, 6, .inl (fun _ => 0))), (q 34, .inl (E.2 0, 6, .inl (fun _ => 0))), (q 35, .inl (E.2 1, 6, .inl (fun _ => 0))), (q 36, .inl (E.2 0, 6, .inl (fun _ => 0))), (q 37, .inl (E.2 0, 6, .inl (fun _ => 0))), (q 38, .inl (E.2 0, 6, .inl (fun _ => 0))), (q 39, .inl (E.2 0, 6, .inl (fun _ => 0))), (q 40, .inl (E.2 0, 6, .inl (fun _ => 0)))] H := hP
  have hD : va_D A [(h1, .inr (12, mO q)), (q 24, .inl (E.2 1, 6, .inl (fun _ => 0))), (q 25, .inl (E.2 0, 6, .inl (fun _ => 0))), (q 19, .inl (E.2 0, 10, .inl (fun _ => 0))), (q 26, .inl (E.2 0, 6, .inl (fun _ => 0))), (q 33, .inl (E.2 0, 6, .inl (fun _ => 0))), (q 27, .inl (E.2 0, 6, .inl (fun _ => 0))), (q 28, .inl (E.2 0, 6, .inl (fun _ => 0))), (q 30, .inl (E.2 0, 6, .inl (fun _ => 0))), (q 31, .inl (E.2 0, 6, .inl (fun _ => 0))), (q 32, .inl (E.2 0, 6, .inl (fun _ => 0))), (q 34, .inl (E.2 0, 6, .inl (fun _ => 0))), (q 35, .inl (E.2 1, 6, .inl (fun _ => 0))), (q 36, .inl (E.2 0, 6, .inl (fun _ => 0))), (q 37, .inl (E.2 0, 6, .inl (fun _ => 0))), (q 38, .inl (E.2 0, 6, .inl (fun _ => 0))), (q 39, .inl (E.2 0, 6, .inl (fun _ => 0))), (q 40, .inl (E.2 0, 6, .inl (fun _ => 0)))] := hD
  refine lv_aload_n hx hb dL_law_597 rfl (lv_at hl 1 rfl) ?_
  refine lv_aload_n hx hb dL_law_598 rfl (lv_at hl 3 rfl) ?_
  refine lv_iload_n hx hb dL_law_599 rfl (lv_at hl 0 rfl) ?_
  refine lv_iconst (v := 1) hx hb dL_law_600 (by decide) ?_
  refine lv_iadd hx hb dL_law_601 ?_
  refine lv_topi (fun x11 ex11 => ?_)
  obtain rfl : x11 = 1 := ex11.trans (by decide +kernel)
  refine va_sld hx hb hX hbl hbA hS (show vp_in 1 6 from by unfold vp_in; decide) dL_law_602 ?_
  refine lv_topi (fun x12 ex12 => ?_)
  obtain rfl : x12 = xs 1 := ex12
  refine lv_aload_n hx hb dL_law_603 rfl (lv_at hl 3 rfl) ?_
  refine lv_iload_n hx hb dL_law_604 rfl (lv_at hl 0 rfl) ?_
  refine lv_iconst (v := 2) hx hb dL_law_605 (by decide) ?_
  refine lv_iadd hx hb dL_law_606 ?_
  refine lv_topi (fun x13 ex13 => ?_)
  obtain rfl : x13 = 2 := ex13.trans (by decide +kernel)
  refine va_sld hx hb hX hbl hbA hS (show vp_in 2 6 from by unfold vp_in; decide) dL_law_607 ?_
  refine lv_topi (fun x14 ex14 => ?_)
  obtain rfl : x14 = xs 2 := ex14
  refine lv_aload_n hx hb dL_law_608 rfl (lv_at hl 3 rfl) ?_
  refine lv_iload_n hx hb dL_law_609 rfl (lv_at hl 0 rfl) ?_
  refine lv_iconst (v := 3) hx hb dL_law_610 (by decide) ?_
  refine lv_iadd hx hb dL_law_611 ?_
  refine lv_topi (fun x15 ex15 => ?_)
  obtain rfl : x15 = 3 := ex15.trans (by decide +kernel)
  refine va_sld hx hb hX hbl hbA hS (show vp_in 3 6 from by unfold vp_in; decide) dL_law_612 ?_
  refine lv_topi (fun x16 ex16 => ?_)
  obtain rfl : x16 = xs 3 := ex16
  refine lv_aload_n hx hb dL_law_613 rfl (lv_at hl 3 rfl) ?_
  refine lv_iload_n hx hb dL_law_614 rfl (lv_at hl 0 rfl) ?_
  refine lv_iconst (v := 4) hx hb dL_law_615 (by decide) ?_
  refine lv_iadd hx hb dL_law_616 ?_
  refine lv_topi (fun x17 ex17 => ?_)
  obtain rfl : x17 = 4 := ex17.trans (by decide +kernel)
  refine va_sld hx hb hX hbl hbA hS (show vp_in 4 6 from by unfold vp_in; decide) dL_law_617 ?_
  refine lv_topi (fun x18 ex18 => ?_)
  obtain rfl : x18 = xs 4 := ex18
  have hPc := hP.sub (ws' := [(h1, .inr (12, mO q)), (q 24, .inl (E.2 1, 6, .inl (fun _ => 0))), (q 25, .inl (E.2 0, 6, .inl (fun _ => 0))), (q 19, .inl (E.2 0, 10, .inl (fun _ => 0))), (q 26, .inl (E.2 0, 6, .inl (fun _ => 0))), (q 33, .inl (E.2 0, 6, .inl (fun _ => 0))), (q 27, .inl (E.2 0, 6, .inl (fun _ => 0))), (q 28, .inl (E.2 0, 6, .inl (fun _ => 0))), (q 30, .inl (E.2 0, 6, .inl (fun _ => 0))), (q 31, .inl (E.2 0, 6, .inl (fun _ => 0))), (q 32, .inl (E.2 0, 6, .inl (fun _ => 0))), (q 34, .inl (E.2 0, 6, .inl (fun _ => 0))), (q 35, .inl (E.2 1, 6, .inl (fun _ => 0))), (q 36, .inl (E.2 0, 6, .inl (fun _ => 0))), (q 37, .inl (E.2 0, 6, .inl (fun _ => 0))), (q 38, .inl (E.2 0, 6, .inl (fun _ => 0))), (q 39, .inl (E.2 0, 6, .inl (fun _ => 0))), (q 40, .inl (E.2 0, 6, .inl (fun _ => 0)))]) [0, 1, 2, 3, 4, 5, 6, 7, 8, 9, 10, 11, 12, 13, 14, 15, 16, 17] rfl
  have hDc := hD.sub (ws' := [(h1, .inr (12, mO q)), (q 24, .inl (E.2 1, 6, .inl (fun _ => 0))), (q 25, .inl (E.2 0, 6, .inl (fun _ => 0))), (q 19, .inl (E.2 0, 10, .inl (fun _ => 0))), (q 26, .inl (E.2 0, 6, .inl (fun _ => 0))), (q 33, .inl (E.2 0, 6, .inl (fun _ => 0))), (q 27, .inl (E.2 0, 6, .inl (fun _ => 0))), (q 28, .inl (E.2 0, 6, .inl (fun _ => 0))), (q 30, .inl (E.2 0, 6, .inl (fun _ => 0))), (q 31, .inl (E.2 0, 6, .inl (fun _ => 0))), (q 32, .inl (E.2 0, 6, .inl (fun _ => 0))), (q 34, .inl (E.2 0, 6, .inl (fun _ => 0))), (q 35, .inl (E.2 1, 6, .inl (fun _ => 0))), (q 36, .inl (E.2 0, 6, .inl (fun _ => 0))), (q 37, .inl (E.2 0, 6, .inl (fun _ => 0))), (q 38, .inl (E.2 0, 6, .inl (fun _ => 0))), (q 39, .inl (E.2 0, 6, .inl (fun _ => 0))), (q 40, .inl (E.2 0, 6, .inl (fun _ => 0)))]) [0, 1, 2, 3, 4, 5, 6, 7, 8, 9, 10, 11, 12, 13, 14, 15, 16, 17] (by decide) rfl
  have hFc := va_free (wc := [(h1, .inr (12, mO q)), (q 24, .inl (E.2 1, 6, .inl (fun _ => 0))), (q 25, .inl (E.2 0, 6, .inl (fun _ => 0))), (q 19, .inl (E.2 0, 10, .inl (fun _ => 0))), (q 26, .inl (E.2 0, 6, .inl (fun _ => 0))), (q 33, .inl (E.2 0, 6, .inl (fun _ => 0))), (q 27, .inl (E.2 0, 6, .inl (fun _ => 0))), (q 28, .inl (E.2 0, 6, .inl (fun _ => 0))), (q 30, .inl (E.2 0, 6, .inl (fun _ => 0))), (q 31, .inl (E.2 0, 6, .inl (fun _ => 0))), (q 32, .inl (E.2 0, 6, .inl (fun _ => 0))), (q 34, .inl (E.2 0, 6, .inl (fun _ => 0))), (q 35, .inl (E.2 1, 6, .inl (fun _ => 0))), (q 36, .inl (E.2 0, 6, .inl (fun _ => 0))), (q 37, .inl (E.2 0, 6, .inl (fun _ => 0))), (q 38, .inl (E.2 0, 6, .inl (fun _ => 0))), (q 39, .inl (E.2 0, 6, .inl (fun _ => 0))), (q 40, .inl (E.2 0, 6, .inl (fun _ => 0)))]) hD hS hA [0, 1, 2, 3, 4, 5, 6, 7, 8, 9, 10, 11, 12, 13, 14, 15, 16, 17] rfl
  refine va_calli (va_runV (As := [.int (xs 1), .int (xs 2), .int (xs 3), .int (xs 4)]) (rest := [.int r9]) ⟨hx, hb, hml, hown, hts⟩ (c_X12_begin l E h1 q (xs 1) (xs 2) (xs 3) (xs 4) H.size ) (cwV 4 hts gL_law_X12_begin rfl rfl rfl (by decide +kernel) ⟨Nat.le_of_ble_eq_true rfl, Nat.le_of_ble_eq_true rfl⟩) ⟨pcW_blind, va_recv hK hPc (ci := 12) (q0 := 0) rfl rfl, (pcW_pre hPc hkn hDc hst hS hFc)⟩ rfl rfl hl.1 rfl (lv_room (Nat.le_of_ble_eq_true rfl)) dL_law_618 ⟨Nat.le_of_ble_eq_true rfl, Nat.le_of_ble_eq_true rfl⟩) hS (fun q _ h => hFc q h) hFc (fun r19 u t H1 locs ht hvm hw20 hB hz1 hk1 hS => ?_)
  obtain ⟨hP1, hD1⟩ := hB
  rw [ht] at hP1
  try dsimp only at hw20
  obtain ⟨hP, hD⟩ := va_join (wr := []) (w1 := []) hP hD [0, 1, 2, 3, 4, 5, 6, 7, 8, 9, 10, 11, 12, 13, 14, 15, 16, 17] [] rfl rfl (by decide) (by decide) hk1 hFc hP1 hD1
  generalize H1 = H at hP hS ⊢
  have hP : va_P E.1 vwCl [] H := hP
  have hD : va_D A [] := hD
  refine lv_icmp_eq (tgt := 1029) hx hb dL_law_621 (by decide) (fun c9 => ?_) (fun c9 => absurd c9 (fun h => h (hw10.trans hw20.symm)))
  exact law_end l C0 hA hbA hAs _ _ hS _ _ _ (lv_sub hl [0, 1, 2, 3] rfl)
set_option maxHeartbeats 4000000 in
set_option maxRecDepth 100000 in
theorem op_place {p : Program} {e : Env} {s : State} {m : MethodId} {below : List Frame} {meth : Method} {c : Code} (l : Launch) {b : Nat} {xs : Nat → Int32} (C0 : lw_At p s m meth c b 6 xs) {A : Nat → Prop} (hA : ∀ q : Nat, s.heap.size ≤ q → A q) (hbA : ¬ A b) (hAs : ∀ q : Nat, A q → s.heap.size ≤ q) (E : vE) (hkn : kn E s) (hst : st A s s.heap) (x0 h1 : Nat) (tp : Nat) (rd : Nat) (se : Nat) (ba : Nat) (of : Nat) (pl : Nat) (sr : Nat) (sc : Nat) (bo : Nat) (sp : Nat) (pa : Nat) (ru : Nat) (co : Nat) (tr : Nat) (fb : Nat → Option Nat) (wy : Nat) (q : Nat → Nat) (hfb : inR (xs 1) 0 5 = true → fb (xs 1).toNatClampNeg = some bo) (H : Heap) (locs : List Loc) (hP : va_P E.1 vwCl [(x0, .inr (11, [.ref tp, .ref rd, .ref se, .ref ba, .ref of, .ref pl, .ref sr, .ref sc, .int 0])), (ba, .inl (E.2 4, 6, .inr (.inr (.inr (.inr fb))))), (bo, .inr (0, [.ref sp, .ref pa, .int 0, .ref ru, .ref co, .ref tr])), (tr, .inr (4, [.ref wy, .int 0, .int 0, .int (-1), .int 0, .int 0, .int 0, .int 0, .int 0, .int 0, .int 0, .int 0, .int 0, .int 0, .int (-1), .int 0])), (h1, .inr (12, mO q)), (q 24, .inl (E.2 1, 6, .inl (fun _ => 0)))] H) (hD : va_D A [(x0, .inr (11, [.ref tp, .ref rd, .ref se, .ref ba, .ref of, .ref pl, .ref sr, .ref sc, .int 0])), (ba, .inl (E.2 4, 6, .inr (.inr (.inr (.inr fb))))), (bo, .inr (0, [.ref sp, .ref pa, .int 0, .ref ru, .ref co, .ref tr])), (tr, .inr (4, [.ref wy, .int 0, .int 0, .int (-1), .int 0, .int 0, .int 0, .int 0, .int 0, .int 0, .int 0, .int 0, .int 0, .int 0, .int (-1), .int 0])), (h1, .inr (12, mO q)), (q 24, .inl (E.2 1, 6, .inl (fun _ => 0)))]) (hS : va_S A s.heap H locs) (ls : Array Slot) (hl : lv_has ls 4 [(3, .int 0), (2, .ref h1), (1, .ref x0), (0, .ref b)]) : W p l e room_1 s m #[Value.ref b] below meth c H locs 600000 7302249 (lw_Z below #[Value.ref b] s) (F0 m 626 ls []) := by
  obtain ⟨hx, hb, hr, hml, hown0, hts0, hX, hbl, hlocks, hgv⟩ := id C0
  have hown : s.vm.findClass RL = some m.cls := hown0
  have hts : ∀ w ∈ wsL_law, w.before #[Value.ref b] s = true := fun w h => hts0 w (wsL_law_in w h)
  have hK := hkn.1
  refine lv_aload_n hx hb dL_law_626 rfl (lv_at hl 2 rfl) ?_
  refine lv_aload_n hx hb dL_law_627 rfl (lv_at hl 3 rfl) ?_
  refine lv_iload_n hx hb dL_law_628 rfl (lv_at hl 0 rfl) ?_
  refine lv_iconst (v := 1) hx hb dL_law_629 (by decide) ?_
  refine lv_iadd hx hb dL_law_630 ?_
  refine lv_topi (fun x1 ex1 => ?_)
  obtain rfl : x1 = 1 := ex1.trans (by decide +kernel)
  refine va_sld hx hb hX hbl hbA hS (show vp_in 1 6 from by unfold vp_in; decide) dL_law_631 ?_
  refine lv_topi (fun x2 ex2 => ?_)
  obtain rfl : x2 = xs 1 := ex2
  refine lv_aload_n hx hb dL_law_632 rfl (lv_at hl 3 rfl) ?_
  refine lv_iload_n hx hb dL_law_633 rfl (lv_at hl 0 rfl) ?_
  refine lv_iconst (v := 2) hx hb dL_law_634 (by decide) ?_
  refine lv_iadd hx hb dL_law_635 ?_
  refine lv_topi (fun x3 ex3 => ?_)
  obtain rfl : x3 = 2 := ex3.trans (by decide +kernel)
  refine va_sld hx hb hX hbl hbA hS (show vp_in 2 6 from by unfold vp_in; decide) dL_law_636 ?_
  refine lv_topi (fun x4 ex4 => ?_)
  obtain rfl : x4 = xs 2 := ex4
  have hPc := hP.sub (ws' := [(x0, .inr (11, [.ref tp, .ref rd, .ref se, .ref ba, .ref of, .ref pl, .ref sr, .ref sc, .int 0])), (ba, .inl (E.2 4, 6, .inr (.inr (.inr (.inr fb))))), (bo, .inr (0, [.ref sp, .ref pa, .int 0, .ref ru, .ref co, .ref tr])), (tr, .inr (4, [.ref wy, .int 0, .int 0, .int (-1), .int 0, .int 0, .int 0, .int 0, .int 0, .int 0, .int 0, .int 0, .int 0, .int 0, .int (-1), .int 0]))]) [0, 1, 2, 3] rfl
  have hDc := hD.sub (ws' := [(x0, .inr (11, [.ref tp, .ref rd, .ref se, .ref ba, .ref of, .ref pl, .ref sr, .ref sc, .int 0])), (ba, .inl (E.2 4, 6, .inr (.inr (.inr (.inr fb))))), (bo, .inr (0, [.ref sp, .ref pa, .int 0, .ref ru, .ref co, .ref tr])), (tr, .inr (4, [.ref wy, .int 0, .int 0, .int (-1), .int 0, .int 0, .int 0, .int 0, .int 0, .int 0, .int 0, .int 0, .int 0, .int 0, .int (-1), .int 0]))]) [0, 1, 2, 3] (by decide) rfl
  have hFc := va_free (wc := [(x0, .inr (11, [.ref tp, .ref rd, .ref se, .ref ba, .ref of, .ref pl, .ref sr, .ref sc, .int 0])), (ba, .inl (E.2 4, 6, .inr (.inr (.inr (.inr fb))))), (bo, .inr (0, [.ref sp, .ref pa, .int 0, .ref ru, .ref co, .ref tr])), (tr, .inr (4, [.ref wy, .int 0, .int 0, .int (-1), .int 0, .int 0, .int 0, .int 0, .int 0, .int 0, .int 0, .int 0, .int 0, .int 0, .int (-1), .int 0]))]) hD hS hA [0, 1, 2, 3] rfl
  refine va_calli (va_runV (As := [.int (xs 1), .int (xs 2)]) (rest := []) ⟨hx, hb, hml, hown, hts⟩ (c_X11_place l E x0 tp rd se ba of pl sr sc bo sp pa ru co tr fb wy (xs 1) (xs 2) H.size hfb) (cwV 2 hts gL_law_X11_place rfl rfl rfl (by decide +kernel) ⟨Nat.le_of_ble_eq_true rfl, Nat.le_of_ble_eq_true rfl⟩) ⟨pcW_blind, va_recv hK hPc (ci := 11) (q0 := 0) rfl rfl, (pcW_pre hPc hkn hDc hst hS hFc)⟩ rfl rfl hl.1 rfl (lv_room (Nat.le_of_ble_eq_true rfl)) dL_law_637 ⟨Nat.le_of_ble_eq_true rfl, Nat.le_of_ble_eq_true rfl⟩) hS (fun q _ h => hFc q h) hFc (fun r5 u t H1 locs ht hvm hw6 hB hz1 hk1 hS => ?_)
  obtain ⟨hP1, hD1⟩ := hB
  rw [ht] at hP1
  try dsimp only at hw6
  obtain ⟨hP, hD⟩ := va_join (wr := [(h1, .inr (12, mO q)), (q 24, .inl (E.2 1, 6, .inl (fun _ => 0)))]) (w1 := []) hP hD [0, 1, 2, 3] [4, 5] rfl rfl (by decide) (by decide) hk1 hFc hP1 hD1
  generalize H1 = H at hP hS ⊢
  have hP : va_P E.1 vwCl [(h1, .inr (12, mO q)), (q 24, .inl (E.2 1, 6, .inl (fun _ => 0)))] H := hP
  have hD : va_D A [(h1, .inr (12, mO q)), (q 24, .inl (E.2 1, 6, .inl (fun _ => 0)))] := hD
  refine lv_aload_n hx hb dL_law_640 rfl (lv_at hl 1 rfl) ?_
  refine lv_aload_n hx hb dL_law_641 rfl (lv_at hl 3 rfl) ?_
  refine lv_iload_n hx hb dL_law_642 rfl (lv_at hl 0 rfl) ?_
  refine lv_iconst (v := 1) hx hb dL_law_643 (by decide) ?_
  refine lv_iadd hx hb dL_law_644 ?_
  refine lv_topi (fun x7 ex7 => ?_)
  obtain rfl : x7 = 1 := ex7.trans (by decide +kernel)
  refine va_sld hx hb hX hbl hbA hS (show vp_in 1 6 from by unfold vp_in; decide) dL_law_645 ?_
  refine lv_topi (fun x8 ex8 => ?_)
  obtain rfl : x8 = xs 1 := ex8
  refine lv_aload_n hx hb dL_law_646 rfl (lv_at hl 3 rfl) ?_
  refine lv_iload_n hx hb dL_law_647 rfl (lv_at hl 0 rfl) ?_
  refine lv_iconst (v := 2) hx hb dL_law_648 (by decide) ?_
  refine lv_iadd hx hb dL_law_649 ?_
  refine lv_topi (fun x9 ex9 => ?_)
  obtain rfl : x9 = 2 := ex9.trans (by decide +kernel)
  refine va_sld hx hb hX hbl hbA hS (show vp_in 2 6 from by unfold vp_in; decide) dL_law_650 ?_
  refine lv_topi (fun x10 ex10 => ?_)
  obtain rfl : x10 = xs 2 := ex10
  have hPc := hP.sub (ws' := [(h1, .inr (12, mO q)), (q 24, .inl (E.2 1, 6, .inl (fun _ => 0)))]) [0, 1] rfl
  have hDc := hD.sub (ws' := [(h1, .inr (12, mO q)), (q 24, .inl (E.2 1, 6, .inl (fun _ => 0)))]) [0, 1] (by decide) rfl
  have hFc := va_free (wc := [(h1, .inr (12, mO q)), (q 24, .inl (E.2 1, 6, .inl (fun _ => 0)))]) hD hS hA [0, 1] rfl
  refine va_calli (va_runV (As := [.int (xs 1), .int (xs 2)]) (rest := [.int r5]) ⟨hx, hb, hml, hown, hts⟩ (c_X12_place l E h1 q (xs 1) (xs 2) H.size ) (cwV 2 hts gL_law_X12_place rfl rfl rfl (by decide +kernel) ⟨Nat.le_of_ble_eq_true rfl, Nat.le_of_ble_eq_true rfl⟩) ⟨pcW_blind, va_recv hK hPc (ci := 12) (q0 := 0) rfl rfl, (pcW_pre hPc hkn hDc hst hS hFc)⟩ rfl rfl hl.1 rfl (lv_room (Nat.le_of_ble_eq_true rfl)) dL_law_651 ⟨Nat.le_of_ble_eq_true rfl, Nat.le_of_ble_eq_true rfl⟩) hS (fun q _ h => hFc q h) hFc (fun r11 u t H1 locs ht hvm hw12 hB hz1 hk1 hS => ?_)
  obtain ⟨hP1, hD1⟩ := hB
  rw [ht] at hP1
  try dsimp only at hw12
  obtain ⟨hP, hD⟩ := va_join (wr := []) (w1 := []) hP hD [0, 1] [] rfl rfl (by decide) (by decide) hk1 hFc hP1 hD1
  generalize H1 = H at hP hS ⊢
  have hP : va_P E.1 vwCl [] H := hP
  have hD : va_D A [] := hD
  refine lv_icmp_eq (tgt := 1029) hx hb dL_law_654 (by decide) (fun c9 => ?_) (fun c9 => absurd c9 (fun h => h (hw6.trans hw12.symm)))
  exact law_end l C0 hA hbA hAs _ _ hS _ _ _ (lv_sub hl [0, 1, 2, 3] rfl)
set_option maxHeartbeats 4000000 in
set_option maxRecDepth 100000 in
theorem op_sail {p : Program} {e : Env} {s : State} {m : MethodId} {below : List Frame} {meth : Method} {c : Code} (l : Launch) {b : Nat} {xs : Nat → Int32} (C0 : lw_At p s m meth c b 6 xs) {A : Nat → Prop} (hA : ∀ q : Nat, s.heap.size ≤ q → A q) (hbA : ¬ A b) (hAs : ∀ q : Nat, A q → s.heap.size ≤ q) (E : vE) (hkn : kn E s) (hst : st A s s.heap) (x0 h1 : Nat) (tp : Nat) (rd : Nat) (se : Nat) (ba : Nat) (of : Nat) (pl : Nat) (sr : Nat) (sc : Nat) (bo : Nat) (sp : Nat) (pa : Nat) (ru : Nat) (co : Nat) (tr : Nat) (fb : Nat → Option Nat) (wy : Nat) (q : Nat → Nat) (hfb : inR (xs 1) 0 5 = true → fb (xs 1).toNatClampNeg = some bo) (H : Heap) (locs : List Loc) (hP : va_P E.1 vwCl [(x0, .inr (11, [.ref tp, .ref rd, .ref se, .ref ba, .ref of, .ref pl, .ref sr, .ref sc, .int 0])), (ba, .inl (E.2 4, 6, .inr (.inr (.inr (.inr fb))))), (bo, .inr (0, [.ref sp, .ref pa, .int 0, .ref ru, .ref co, .ref tr])), (tr, .inr (4, [.ref wy, .int 0, .int 0, .int (-1), .int 0, .int 0, .int 0, .int 0, .int 0, .int 0, .int 0, .int 0, .int 0, .int 0, .int (-1), .int 0])), (h1, .inr (12, mO q)), (q 24, .inl (E.2 1, 6, .inl (fun _ => 0)))] H) (hD : va_D A [(x0, .inr (11, [.ref tp, .ref rd, .ref se, .ref ba, .ref of, .ref pl, .ref sr, .ref sc, .int 0])), (ba, .inl (E.2 4, 6, .inr (.inr (.inr (.inr fb))))), (bo, .inr (0, [.ref sp, .ref pa, .int 0, .ref ru, .ref co, .ref tr])), (tr, .inr (4, [.ref wy, .int 0, .int 0, .int (-1), .int 0, .int 0, .int 0, .int 0, .int 0, .int 0, .int 0, .int 0, .int 0, .int 0, .int (-1), .int 0])), (h1, .inr (12, mO q)), (q 24, .inl (E.2 1, 6, .inl (fun _ => 0)))]) (hS : va_S A s.heap H locs) (ls : Array Slot) (hl : lv_has ls 4 [(3, .int 0), (2, .ref h1), (1, .ref x0), (0, .ref b)]) : W p l e room_1 s m #[Value.ref b] below meth c H locs 600000 7302249 (lw_Z below #[Value.ref b] s) (F0 m 659 ls []) := by
  obtain ⟨hx, hb, hr, hml, hown0, hts0, hX, hbl, hlocks, hgv⟩ := id C0
  have hown : s.vm.findClass RL = some m.cls := hown0
  have hts : ∀ w ∈ wsL_law, w.before #[Value.ref b] s = true := fun w h => hts0 w (wsL_law_in w h)
  have hK := hkn.1
  refine lv_aload_n hx hb dL_law_659 rfl (lv_at hl 2 rfl) ?_
  refine lv_aload_n hx hb dL_law_660 rfl (lv_at hl 3 rfl) ?_
  refine lv_iload_n hx hb dL_law_661 rfl (lv_at hl 0 rfl) ?_
  refine lv_iconst (v := 1) hx hb dL_law_662 (by decide) ?_
  refine lv_iadd hx hb dL_law_663 ?_
  refine lv_topi (fun x1 ex1 => ?_)
  obtain rfl : x1 = 1 := ex1.trans (by decide +kernel)
  refine va_sld hx hb hX hbl hbA hS (show vp_in 1 6 from by unfold vp_in; decide) dL_law_664 ?_
  refine lv_topi (fun x2 ex2 => ?_)
  obtain rfl : x2 = xs 1 := ex2
  refine lv_aload_n hx hb dL_law_665 rfl (lv_at hl 3 rfl) ?_
  refine lv_iload_n hx hb dL_law_666 rfl (lv_at hl 0 rfl) ?_
  refine lv_iconst (v := 2) hx hb dL_law_667 (by decide) ?_
  refine lv_iadd hx hb dL_law_668 ?_
  refine lv_topi (fun x3 ex3 => ?_)
  obtain rfl : x3 = 2 := ex3.trans (by decide +kernel)
  refine va_sld hx hb hX hbl hbA hS (show vp_in 2 6 from by unfold vp_in; decide) dL_law_669 ?_
  refine lv_topi (fun x4 ex4 => ?_)
  obtain rfl : x4 = xs 2 := ex4
  have hPc := hP.sub (ws' := [(x0, .inr (11, [.ref tp, .ref rd, .ref se, .ref ba, .ref of, .ref pl, .ref sr, .ref sc, .int 0])), (ba, .inl (E.2 4, 6, .inr (.inr (.inr (.inr fb))))), (bo, .inr (0, [.ref sp, .ref pa, .int 0, .ref ru, .ref co, .ref tr])), (tr, .inr (4, [.ref wy, .int 0, .int 0, .int (-1), .int 0, .int 0, .int 0, .int 0, .int 0, .int 0, .int 0, .int 0, .int 0, .int 0, .int (-1), .int 0]))]) [0, 1, 2, 3] rfl
  have hDc := hD.sub (ws' := [(x0, .inr (11, [.ref tp, .ref rd, .ref se, .ref ba, .ref of, .ref pl, .ref sr, .ref sc, .int 0])), (ba, .inl (E.2 4, 6, .inr (.inr (.inr (.inr fb))))), (bo, .inr (0, [.ref sp, .ref pa, .int 0, .ref ru, .ref co, .ref tr])), (tr, .inr (4, [.ref wy, .int 0, .int 0, .int (-1), .int 0, .int 0, .int 0, .int 0, .int 0, .int 0, .int 0, .int 0, .int 0, .int 0, .int (-1), .int 0]))]) [0, 1, 2, 3] (by decide) rfl
  have hFc := va_free (wc := [(x0, .inr (11, [.ref tp, .ref rd, .ref se, .ref ba, .ref of, .ref pl, .ref sr, .ref sc, .int 0])), (ba, .inl (E.2 4, 6, .inr (.inr (.inr (.inr fb))))), (bo, .inr (0, [.ref sp, .ref pa, .int 0, .ref ru, .ref co, .ref tr])), (tr, .inr (4, [.ref wy, .int 0, .int 0, .int (-1), .int 0, .int 0, .int 0, .int 0, .int 0, .int 0, .int 0, .int 0, .int 0, .int 0, .int (-1), .int 0]))]) hD hS hA [0, 1, 2, 3] rfl
  refine va_calli (va_runV (As := [.int (xs 1), .int (xs 2)]) (rest := []) ⟨hx, hb, hml, hown, hts⟩ (c_X11_sail l E x0 tp rd se ba of pl sr sc bo sp pa ru co tr fb wy (xs 1) (xs 2) H.size hfb) (cwV 2 hts gL_law_X11_sail rfl rfl rfl (by decide +kernel) ⟨Nat.le_of_ble_eq_true rfl, Nat.le_of_ble_eq_true rfl⟩) ⟨pcW_blind, va_recv hK hPc (ci := 11) (q0 := 0) rfl rfl, (pcW_pre hPc hkn hDc hst hS hFc)⟩ rfl rfl hl.1 rfl (lv_room (Nat.le_of_ble_eq_true rfl)) dL_law_670 ⟨Nat.le_of_ble_eq_true rfl, Nat.le_of_ble_eq_true rfl⟩) hS (fun q _ h => hFc q h) hFc (fun r5 u t H1 locs ht hvm hw6 hB hz1 hk1 hS => ?_)
  obtain ⟨hP1, hD1⟩ := hB
  rw [ht] at hP1
  try dsimp only at hw6
  obtain ⟨hP, hD⟩ := va_join (wr := [(h1, .inr (12, mO q)), (q 24, .inl (E.2 1, 6, .inl (fun _ => 0)))]) (w1 := []) hP hD [0, 1, 2, 3] [4, 5] rfl rfl (by decide) (by decide) hk1 hFc hP1 hD1
  generalize H1 = H at hP hS ⊢
  have hP : va_P E.1 vwCl [(h1, .inr (12, mO q)), (q 24, .inl (E.2 1, 6, .inl (fun _ => 0)))] H := hP
  have hD : va_D A [(h1, .inr (12, mO q)), (q 24, .inl (E.2 1, 6, .inl (fun _ => 0)))] := hD
  refine lv_aload_n hx hb dL_law_673 rfl (lv_at hl 1 rfl) ?_
  refine lv_aload_n hx hb dL_law_674 rfl (lv_at hl 3 rfl) ?_
  refine lv_iload_n hx hb dL_law_675 rfl (lv_at hl 0 rfl) ?_
  refine lv_iconst (v := 1) hx hb dL_law_676 (by decide) ?_
  refine lv_iadd hx hb dL_law_677 ?_
  refine lv_topi (fun x7 ex7 => ?_)
  obtain rfl : x7 = 1 := ex7.trans (by decide +kernel)
  refine va_sld hx hb hX hbl hbA hS (show vp_in 1 6 from by unfold vp_in; decide) dL_law_678 ?_
  refine lv_topi (fun x8 ex8 => ?_)
  obtain rfl : x8 = xs 1 := ex8
  refine lv_aload_n hx hb dL_law_679 rfl (lv_at hl 3 rfl) ?_
  refine lv_iload_n hx hb dL_law_680 rfl (lv_at hl 0 rfl) ?_
  refine lv_iconst (v := 2) hx hb dL_law_681 (by decide) ?_
  refine lv_iadd hx hb dL_law_682 ?_
  refine lv_topi (fun x9 ex9 => ?_)
  obtain rfl : x9 = 2 := ex9.trans (by decide +kernel)
  refine va_sld hx hb hX hbl hbA hS (show vp_in 2 6 from by unfold vp_in; decide) dL_law_683 ?_
  refine lv_topi (fun x10 ex10 => ?_)
  obtain rfl : x10 = xs 2 := ex10
  have hPc := hP.sub (ws' := [(h1, .inr (12, mO q)), (q 24, .inl (E.2 1, 6, .inl (fun _ => 0)))]) [0, 1] rfl
  have hDc := hD.sub (ws' := [(h1, .inr (12, mO q)), (q 24, .inl (E.2 1, 6, .inl (fun _ => 0)))]) [0, 1] (by decide) rfl
  have hFc := va_free (wc := [(h1, .inr (12, mO q)), (q 24, .inl (E.2 1, 6, .inl (fun _ => 0)))]) hD hS hA [0, 1] rfl
  refine va_calli (va_runV (As := [.int (xs 1), .int (xs 2)]) (rest := [.int r5]) ⟨hx, hb, hml, hown, hts⟩ (c_X12_sail l E h1 q (xs 1) (xs 2) H.size ) (cwV 2 hts gL_law_X12_sail rfl rfl rfl (by decide +kernel) ⟨Nat.le_of_ble_eq_true rfl, Nat.le_of_ble_eq_true rfl⟩) ⟨pcW_blind, va_recv hK hPc (ci := 12) (q0 := 0) rfl rfl, (pcW_pre hPc hkn hDc hst hS hFc)⟩ rfl rfl hl.1 rfl (lv_room (Nat.le_of_ble_eq_true rfl)) dL_law_684 ⟨Nat.le_of_ble_eq_true rfl, Nat.le_of_ble_eq_true rfl⟩) hS (fun q _ h => hFc q h) hFc (fun r11 u t H1 locs ht hvm hw12 hB hz1 hk1 hS => ?_)
  obtain ⟨hP1, hD1⟩ := hB
  rw [ht] at hP1
  try dsimp only at hw12
  obtain ⟨hP, hD⟩ := va_join (wr := []) (w1 := []) hP hD [0, 1] [] rfl rfl (by decide) (by decide) hk1 hFc hP1 hD1
  generalize H1 = H at hP hS ⊢
  have hP : va_P E.1 vwCl [] H := hP
  have hD : va_D A [] := hD
  refine lv_icmp_eq (tgt := 1029) hx hb dL_law_687 (by decide) (fun c9 => ?_) (fun c9 => absurd c9 (fun h => h (hw6.trans hw12.symm)))
  exact law_end l C0 hA hbA hAs _ _ hS _ _ _ (lv_sub hl [0, 1, 2, 3] rfl)
set_option maxHeartbeats 4000000 in
set_option maxRecDepth 100000 in
theorem op_passage {p : Program} {e : Env} {s : State} {m : MethodId} {below : List Frame} {meth : Method} {c : Code} (l : Launch) {b : Nat} {xs : Nat → Int32} (C0 : lw_At p s m meth c b 6 xs) {A : Nat → Prop} (hA : ∀ q : Nat, s.heap.size ≤ q → A q) (hbA : ¬ A b) (hAs : ∀ q : Nat, A q → s.heap.size ≤ q) (E : vE) (hkn : kn E s) (hst : st A s s.heap) (x0 h1 : Nat) (tp : Nat) (rd : Nat) (se : Nat) (ba : Nat) (of : Nat) (pl : Nat) (sr : Nat) (sc : Nat) (bo : Nat) (sp : Nat) (pa : Nat) (ru : Nat) (co : Nat) (tr : Nat) (fb : Nat → Option Nat) (wy : Nat) (q : Nat → Nat) (hfb : inR (xs 1) 0 5 = true → fb (xs 1).toNatClampNeg = some bo) (H : Heap) (locs : List Loc) (hP : va_P E.1 vwCl [(x0, .inr (11, [.ref tp, .ref rd, .ref se, .ref ba, .ref of, .ref pl, .ref sr, .ref sc, .int 0])), (ba, .inl (E.2 4, 6, .inr (.inr (.inr (.inr fb))))), (bo, .inr (0, [.ref sp, .ref pa, .int 0, .ref ru, .ref co, .ref tr])), (tr, .inr (4, [.ref wy, .int 0, .int 0, .int (-1), .int 0, .int 0, .int 0, .int 0, .int 0, .int 0, .int 0, .int 0, .int 0, .int 0, .int (-1), .int 0])), (h1, .inr (12, mO q)), (q 24, .inl (E.2 1, 6, .inl (fun _ => 0)))] H) (hD : va_D A [(x0, .inr (11, [.ref tp, .ref rd, .ref se, .ref ba, .ref of, .ref pl, .ref sr, .ref sc, .int 0])), (ba, .inl (E.2 4, 6, .inr (.inr (.inr (.inr fb))))), (bo, .inr (0, [.ref sp, .ref pa, .int 0, .ref ru, .ref co, .ref tr])), (tr, .inr (4, [.ref wy, .int 0, .int 0, .int (-1), .int 0, .int 0, .int 0, .int 0, .int 0, .int 0, .int 0, .int 0, .int 0, .int 0, .int (-1), .int 0])), (h1, .inr (12, mO q)), (q 24, .inl (E.2 1, 6, .inl (fun _ => 0)))]) (hS : va_S A s.heap H locs) (ls : Array Slot) (hl : lv_has ls 4 [(3, .int 0), (2, .ref h1), (1, .ref x0), (0, .ref b)]) : W p l e room_1 s m #[Value.ref b] below meth c H locs 600000 7302249 (lw_Z below #[Value.ref b] s) (F0 m 692 ls []) := by
  obtain ⟨hx, hb, hr, hml, hown0, hts0, hX, hbl, hlocks, hgv⟩ := id C0
  have hown : s.vm.findClass RL = some m.cls := hown0
  have hts : ∀ w ∈ wsL_law, w.before #[Value.ref b] s = true := fun w h => hts0 w (wsL_law_in w h)
  have hK := hkn.1
  refine lv_aload_n hx hb dL_law_692 rfl (lv_at hl 2 rfl) ?_
  refine lv_aload_n hx hb dL_law_693 rfl (lv_at hl 3 rfl) ?_
  refine lv_iload_n hx hb dL_law_694 rfl (lv_at hl 0 rfl) ?_
  refine lv_iconst (v := 1) hx hb dL_law_695 (by decide) ?_
  refine lv_iadd hx hb dL_law_696 ?_
  refine lv_topi (fun x1 ex1 => ?_)
  obtain rfl : x1 = 1 := ex1.trans (by decide +kernel)
  refine va_sld hx hb hX hbl hbA hS (show vp_in 1 6 from by unfold vp_in; decide) dL_law_697 ?_
  refine lv_topi (fun x2 ex2 => ?_)
  obtain rfl : x2 = xs 1 := ex2
  refine lv_aload_n hx hb dL_law_698 rfl (lv_at hl 3 rfl) ?_
  refine lv_iload_n hx hb dL_law_699 rfl (lv_at hl 0 rfl) ?_
  refine lv_iconst (v := 2) hx hb dL_law_700 (by decide) ?_
  refine lv_iadd hx hb dL_law_701 ?_
  refine lv_topi (fun x3 ex3 => ?_)
  obtain rfl : x3 = 2 := ex3.trans (by decide +kernel)
  refine va_sld hx hb hX hbl hbA hS (show vp_in 2 6 from by unfold vp_in; decide) dL_law_702 ?_
  refine lv_topi (fun x4 ex4 => ?_)
  obtain rfl : x4 = xs 2 := ex4
  have hPc := hP.sub (ws' := [(x0, .inr (11, [.ref tp, .ref rd, .ref se, .ref ba, .ref of, .ref pl, .ref sr, .ref sc, .int 0])), (ba, .inl (E.2 4, 6, .inr (.inr (.inr (.inr fb))))), (bo, .inr (0, [.ref sp, .ref pa, .int 0, .ref ru, .ref co, .ref tr])), (tr, .inr (4, [.ref wy, .int 0, .int 0, .int (-1), .int 0, .int 0, .int 0, .int 0, .int 0, .int 0, .int 0, .int 0, .int 0, .int 0, .int (-1), .int 0]))]) [0, 1, 2, 3] rfl
  have hDc := hD.sub (ws' := [(x0, .inr (11, [.ref tp, .ref rd, .ref se, .ref ba, .ref of, .ref pl, .ref sr, .ref sc, .int 0])), (ba, .inl (E.2 4, 6, .inr (.inr (.inr (.inr fb))))), (bo, .inr (0, [.ref sp, .ref pa, .int 0, .ref ru, .ref co, .ref tr])), (tr, .inr (4, [.ref wy, .int 0, .int 0, .int (-1), .int 0, .int 0, .int 0, .int 0, .int 0, .int 0, .int 0, .int 0, .int 0, .int 0, .int (-1), .int 0]))]) [0, 1, 2, 3] (by decide) rfl
  have hFc := va_free (wc := [(x0, .inr (11, [.ref tp, .ref rd, .ref se, .ref ba, .ref of, .ref pl, .ref sr, .ref sc, .int 0])), (ba, .inl (E.2 4, 6, .inr (.inr (.inr (.inr fb))))), (bo, .inr (0, [.ref sp, .ref pa, .int 0, .ref ru, .ref co, .ref tr])), (tr, .inr (4, [.ref wy, .int 0, .int 0, .int (-1), .int 0, .int 0, .int 0, .int 0, .int 0, .int 0, .int 0, .int 0, .int 0, .int 0, .int (-1), .int 0]))]) hD hS hA [0, 1, 2, 3] rfl
  refine va_calli (va_runV (As := [.int (xs 1), .int (xs 2)]) (rest := []) ⟨hx, hb, hml, hown, hts⟩ (c_X11_passage l E x0 tp rd se ba of pl sr sc bo sp pa ru co tr fb wy (xs 1) (xs 2) H.size hfb) (cwV 2 hts gL_law_X11_passage rfl rfl rfl (by decide +kernel) ⟨Nat.le_of_ble_eq_true rfl, Nat.le_of_ble_eq_true rfl⟩) ⟨pcW_blind, va_recv hK hPc (ci := 11) (q0 := 0) rfl rfl, (pcW_pre hPc hkn hDc hst hS hFc)⟩ rfl rfl hl.1 rfl (lv_room (Nat.le_of_ble_eq_true rfl)) dL_law_703 ⟨Nat.le_of_ble_eq_true rfl, Nat.le_of_ble_eq_true rfl⟩) hS (fun q _ h => hFc q h) hFc (fun r5 u t H1 locs ht hvm hw6 hB hz1 hk1 hS => ?_)
  obtain ⟨hP1, hD1⟩ := hB
  rw [ht] at hP1
  try dsimp only at hw6
  obtain ⟨hP, hD⟩ := va_join (wr := [(h1, .inr (12, mO q)), (q 24, .inl (E.2 1, 6, .inl (fun _ => 0)))]) (w1 := []) hP hD [0, 1, 2, 3] [4, 5] rfl rfl (by decide) (by decide) hk1 hFc hP1 hD1
  generalize H1 = H at hP hS ⊢
  have hP : va_P E.1 vwCl [(h1, .inr (12, mO q)), (q 24, .inl (E.2 1, 6, .inl (fun _ => 0)))] H := hP
  have hD : va_D A [(h1, .inr (12, mO q)), (q 24, .inl (E.2 1, 6, .inl (fun _ => 0)))] := hD
  refine lv_aload_n hx hb dL_law_706 rfl (lv_at hl 1 rfl) ?_
  refine lv_aload_n hx hb dL_law_707 rfl (lv_at hl 3 rfl) ?_
  refine lv_iload_n hx hb dL_law_708 rfl (lv_at hl 0 rfl) ?_
  refine lv_iconst (v := 1) hx hb dL_law_709 (by decide) ?_
  refine lv_iadd hx hb dL_law_710 ?_
  refine lv_topi (fun x7 ex7 => ?_)
  obtain rfl : x7 = 1 := ex7.trans (by decide +kernel)
  refine va_sld hx hb hX hbl hbA hS (show vp_in 1 6 from by unfold vp_in; decide) dL_law_711 ?_
  refine lv_topi (fun x8 ex8 => ?_)
  obtain rfl : x8 = xs 1 := ex8
  refine lv_aload_n hx hb dL_law_712 rfl (lv_at hl 3 rfl) ?_
  refine lv_iload_n hx hb dL_law_713 rfl (lv_at hl 0 rfl) ?_
  refine lv_iconst (v := 2) hx hb dL_law_714 (by decide) ?_
  refine lv_iadd hx hb dL_law_715 ?_
  refine lv_topi (fun x9 ex9 => ?_)
  obtain rfl : x9 = 2 := ex9.trans (by decide +kernel)
  refine va_sld hx hb hX hbl hbA hS (show vp_in 2 6 from by unfold vp_in; decide) dL_law_716 ?_
  refine lv_topi (fun x10 ex10 => ?_)
  obtain rfl : x10 = xs 2 := ex10
  have hPc := hP.sub (ws' := [(h1, .inr (12, mO q)), (q 24, .inl (E.2 1, 6, .inl (fun _ => 0)))]) [0, 1] rfl
  have hDc := hD.sub (ws' := [(h1, .inr (12, mO q)), (q 24, .inl (E.2 1, 6, .inl (fun _ => 0)))]) [0, 1] (by decide) rfl
  have hFc := va_free (wc := [(h1, .inr (12, mO q)), (q 24, .inl (E.2 1, 6, .inl (fun _ => 0)))]) hD hS hA [0, 1] rfl
  refine va_calli (va_runV (As := [.int (xs 1), .int (xs 2)]) (rest := [.int r5]) ⟨hx, hb, hml, hown, hts⟩ (c_X12_passage l E h1 q (xs 1) (xs 2) H.size ) (cwV 2 hts gL_law_X12_passage rfl rfl rfl (by decide +kernel) ⟨Nat.le_of_ble_eq_true rfl, Nat.le_of_ble_eq_true rfl⟩) ⟨pcW_blind, va_recv hK hPc (ci := 12) (q0 := 0) rfl rfl, (pcW_pre hPc hkn hDc hst hS hFc)⟩ rfl rfl hl.1 rfl (lv_room (Nat.le_of_ble_eq_true rfl)) dL_law_717 ⟨Nat.le_of_ble_eq_true rfl, Nat.le_of_ble_eq_true rfl⟩) hS (fun q _ h => hFc q h) hFc (fun r11 u t H1 locs ht hvm hw12 hB hz1 hk1 hS => ?_)
  obtain ⟨hP1, hD1⟩ := hB
  rw [ht] at hP1
  try dsimp only at hw12
  obtain ⟨hP, hD⟩ := va_join (wr := []) (w1 := []) hP hD [0, 1] [] rfl rfl (by decide) (by decide) hk1 hFc hP1 hD1
  generalize H1 = H at hP hS ⊢
  have hP : va_P E.1 vwCl [] H := hP
  have hD : va_D A [] := hD
  refine lv_icmp_eq (tgt := 1029) hx hb dL_law_720 (by decide) (fun c9 => ?_) (fun c9 => absurd c9 (fun h => h (hw6.trans hw12.symm)))
  exact law_end l C0 hA hbA hAs _ _ hS _ _ _ (lv_sub hl [0, 1, 2, 3] rfl)
set_option maxHeartbeats 4000000 in
set_option maxRecDepth 100000 in
theorem op_boat {p : Program} {e : Env} {s : State} {m : MethodId} {below : List Frame} {meth : Method} {c : Code} (l : Launch) {b : Nat} {xs : Nat → Int32} (C0 : lw_At p s m meth c b 6 xs) {A : Nat → Prop} (hA : ∀ q : Nat, s.heap.size ≤ q → A q) (hbA : ¬ A b) (hAs : ∀ q : Nat, A q → s.heap.size ≤ q) (E : vE) (hkn : kn E s) (hst : st A s s.heap) (x0 h1 : Nat) (tp : Nat) (rd : Nat) (se : Nat) (ba : Nat) (of : Nat) (pl : Nat) (sr : Nat) (sc : Nat) (bo : Nat) (sp : Nat) (pa : Nat) (ru : Nat) (co : Nat) (tr : Nat) (fb : Nat → Option Nat) (fp : Nat → Int32) (q : Nat → Nat) (fl : Nat → Int32) (hfb : inR (xs 1) 0 5 = true → fb (xs 1).toNatClampNeg = some bo) (hfp : ∀ k, k < 4 → fp k = 10000) (mhfl : ∀ k, k < 24 → fl k = 10000) (H : Heap) (locs : List Loc) (hP : va_P E.1 vwCl [(x0, .inr (11, [.ref tp, .ref rd, .ref se, .ref ba, .ref of, .ref pl, .ref sr, .ref sc, .int 0])), (ba, .inl (E.2 4, 6, .inr (.inr (.inr (.inr fb))))), (bo, .inr (0, [.ref sp, .ref pa, .int 0, .ref ru, .ref co, .ref tr])), (pa, .inl (E.2 0, 4, .inl fp)), (h1, .inr (12, mO q)), (q 21, .inl (E.2 0, 6, .inl (fun _ => 0))), (q 22, .inl (E.2 0, 24, .inl fl))] H) (hD : va_D A [(x0, .inr (11, [.ref tp, .ref rd, .ref se, .ref ba, .ref of, .ref pl, .ref sr, .ref sc, .int 0])), (ba, .inl (E.2 4, 6, .inr (.inr (.inr (.inr fb))))), (bo, .inr (0, [.ref sp, .ref pa, .int 0, .ref ru, .ref co, .ref tr])), (pa, .inl (E.2 0, 4, .inl fp)), (h1, .inr (12, mO q)), (q 21, .inl (E.2 0, 6, .inl (fun _ => 0))), (q 22, .inl (E.2 0, 24, .inl fl))]) (hS : va_S A s.heap H locs) (ls : Array Slot) (hl : lv_has ls 4 [(3, .int 0), (2, .ref h1), (1, .ref x0), (0, .ref b)]) : W p l e room_1 s m #[Value.ref b] below meth c H locs 600000 7302249 (lw_Z below #[Value.ref b] s) (F0 m 725 ls []) := by
  obtain ⟨hx, hb, hr, hml, hown0, hts0, hX, hbl, hlocks, hgv⟩ := id C0
  have hown : s.vm.findClass RL = some m.cls := hown0
  have hts : ∀ w ∈ wsL_law, w.before #[Value.ref b] s = true := fun w h => hts0 w (wsL_law_in w h)
  have hK := hkn.1
  refine lv_aload_n hx hb dL_law_725 rfl (lv_at hl 2 rfl) ?_
  refine lv_aload_n hx hb dL_law_726 rfl (lv_at hl 3 rfl) ?_
  refine lv_iload_n hx hb dL_law_727 rfl (lv_at hl 0 rfl) ?_
  refine lv_iconst (v := 1) hx hb dL_law_728 (by decide) ?_
  refine lv_iadd hx hb dL_law_729 ?_
  refine lv_topi (fun x1 ex1 => ?_)
  obtain rfl : x1 = 1 := ex1.trans (by decide +kernel)
  refine va_sld hx hb hX hbl hbA hS (show vp_in 1 6 from by unfold vp_in; decide) dL_law_730 ?_
  refine lv_topi (fun x2 ex2 => ?_)
  obtain rfl : x2 = xs 1 := ex2
  refine lv_aload_n hx hb dL_law_731 rfl (lv_at hl 3 rfl) ?_
  refine lv_iload_n hx hb dL_law_732 rfl (lv_at hl 0 rfl) ?_
  refine lv_iconst (v := 2) hx hb dL_law_733 (by decide) ?_
  refine lv_iadd hx hb dL_law_734 ?_
  refine lv_topi (fun x3 ex3 => ?_)
  obtain rfl : x3 = 2 := ex3.trans (by decide +kernel)
  refine va_sld hx hb hX hbl hbA hS (show vp_in 2 6 from by unfold vp_in; decide) dL_law_735 ?_
  refine lv_topi (fun x4 ex4 => ?_)
  obtain rfl : x4 = xs 2 := ex4
  have hPc := hP.sub (ws' := [(x0, .inr (11, [.ref tp, .ref rd, .ref se, .ref ba, .ref of, .ref pl, .ref sr, .ref sc, .int 0])), (ba, .inl (E.2 4, 6, .inr (.inr (.inr (.inr fb))))), (bo, .inr (0, [.ref sp, .ref pa, .int 0, .ref ru, .ref co, .ref tr])), (pa, .inl (E.2 0, 4, .inl fp))]) [0, 1, 2, 3] rfl
  have hDc := hD.sub (ws' := [(x0, .inr (11, [.ref tp, .ref rd, .ref se, .ref ba, .ref of, .ref pl, .ref sr, .ref sc, .int 0])), (ba, .inl (E.2 4, 6, .inr (.inr (.inr (.inr fb))))), (bo, .inr (0, [.ref sp, .ref pa, .int 0, .ref ru, .ref co, .ref tr])), (pa, .inl (E.2 0, 4, .inl fp))]) [0, 1, 2, 3] (by decide) rfl
  have hFc := va_free (wc := [(x0, .inr (11, [.ref tp, .ref rd, .ref se, .ref ba, .ref of, .ref pl, .ref sr, .ref sc, .int 0])), (ba, .inl (E.2 4, 6, .inr (.inr (.inr (.inr fb))))), (bo, .inr (0, [.ref sp, .ref pa, .int 0, .ref ru, .ref co, .ref tr])), (pa, .inl (E.2 0, 4, .inl fp))]) hD hS hA [0, 1, 2, 3] rfl
  refine va_calli (va_runV (As := [.int (xs 1), .int (xs 2)]) (rest := []) ⟨hx, hb, hml, hown, hts⟩ (c_X11_boat l E x0 tp rd se ba of pl sr sc bo sp pa ru co tr fb fp (xs 1) (xs 2) H.size hfb hfp) (cwV 2 hts gL_law_X11_boat rfl rfl rfl (by decide +kernel) ⟨Nat.le_of_ble_eq_true rfl, Nat.le_of_ble_eq_true rfl⟩) ⟨pcW_blind, va_recv hK hPc (ci := 11) (q0 := 0) rfl rfl, (pcW_pre hPc hkn hDc hst hS hFc)⟩ rfl rfl hl.1 rfl (lv_room (Nat.le_of_ble_eq_true rfl)) dL_law_736 ⟨Nat.le_of_ble_eq_true rfl, Nat.le_of_ble_eq_true rfl⟩) hS (fun q _ h => hFc q h) hFc (fun r5 u t H1 locs ht hvm hw6 hB hz1 hk1 hS => ?_)
  obtain ⟨hP1, hD1⟩ := hB
  rw [ht] at hP1
  try dsimp only at hw6
  obtain ⟨hP, hD⟩ := va_join (wr := [(h1, .inr (12, mO q)), (q 21, .inl (E.2 0, 6, .inl (fun _ => 0))), (q 22, .inl (E.2 0, 24, .inl fl))]) (w1 := []) hP hD [0, 1, 2, 3] [4, 5, 6] rfl rfl (by decide) (by decide) hk1 hFc hP1 hD1
  generalize H1 = H at hP hS ⊢
  have hP : va_P E.1 vwCl [(h1, .inr (12, mO q)), (q 21, .inl (E.2 0, 6, .inl (fun _ => 0))), (q 22, .inl (E.2 0, 24, .inl fl))] H := hP
  have hD : va_D A [(h1, .inr (12, mO q)), (q 21, .inl (E.2 0, 6, .inl (fun _ => 0))), (q 22, .inl (E.2 0, 24, .inl fl))] := hD
  refine lv_aload_n hx hb dL_law_739 rfl (lv_at hl 1 rfl) ?_
  refine lv_aload_n hx hb dL_law_740 rfl (lv_at hl 3 rfl) ?_
  refine lv_iload_n hx hb dL_law_741 rfl (lv_at hl 0 rfl) ?_
  refine lv_iconst (v := 1) hx hb dL_law_742 (by decide) ?_
  refine lv_iadd hx hb dL_law_743 ?_
  refine lv_topi (fun x7 ex7 => ?_)
  obtain rfl : x7 = 1 := ex7.trans (by decide +kernel)
  refine va_sld hx hb hX hbl hbA hS (show vp_in 1 6 from by unfold vp_in; decide) dL_law_744 ?_
  refine lv_topi (fun x8 ex8 => ?_)
  obtain rfl : x8 = xs 1 := ex8
  refine lv_aload_n hx hb dL_law_745 rfl (lv_at hl 3 rfl) ?_
  refine lv_iload_n hx hb dL_law_746 rfl (lv_at hl 0 rfl) ?_
  refine lv_iconst (v := 2) hx hb dL_law_747 (by decide) ?_
  refine lv_iadd hx hb dL_law_748 ?_
  refine lv_topi (fun x9 ex9 => ?_)
  obtain rfl : x9 = 2 := ex9.trans (by decide +kernel)
  refine va_sld hx hb hX hbl hbA hS (show vp_in 2 6 from by unfold vp_in; decide) dL_law_749 ?_
  refine lv_topi (fun x10 ex10 => ?_)
  obtain rfl : x10 = xs 2 := ex10
  have hPc := hP.sub (ws' := [(h1, .inr (12, mO q)), (q 21, .inl (E.2 0, 6, .inl (fun _ => 0))), (q 22, .inl (E.2 0, 24, .inl fl))]) [0, 1, 2] rfl
  have hDc := hD.sub (ws' := [(h1, .inr (12, mO q)), (q 21, .inl (E.2 0, 6, .inl (fun _ => 0))), (q 22, .inl (E.2 0, 24, .inl fl))]) [0, 1, 2] (by decide) rfl
  have hFc := va_free (wc := [(h1, .inr (12, mO q)), (q 21, .inl (E.2 0, 6, .inl (fun _ => 0))), (q 22, .inl (E.2 0, 24, .inl fl))]) hD hS hA [0, 1, 2] rfl
  refine va_calli (va_runV (As := [.int (xs 1), .int (xs 2)]) (rest := [.int r5]) ⟨hx, hb, hml, hown, hts⟩ (c_X12_boat l E h1 q fl (xs 1) (xs 2) H.size mhfl) (cwV 2 hts gL_law_X12_boat rfl rfl rfl (by decide +kernel) ⟨Nat.le_of_ble_eq_true rfl, Nat.le_of_ble_eq_true rfl⟩) ⟨pcW_blind, va_recv hK hPc (ci := 12) (q0 := 0) rfl rfl, (pcW_pre hPc hkn hDc hst hS hFc)⟩ rfl rfl hl.1 rfl (lv_room (Nat.le_of_ble_eq_true rfl)) dL_law_750 ⟨Nat.le_of_ble_eq_true rfl, Nat.le_of_ble_eq_true rfl⟩) hS (fun q _ h => hFc q h) hFc (fun r11 u t H1 locs ht hvm hw12 hB hz1 hk1 hS => ?_)
  obtain ⟨hP1, hD1⟩ := hB
  rw [ht] at hP1
  try dsimp only at hw12
  obtain ⟨hP, hD⟩ := va_join (wr := []) (w1 := []) hP hD [0, 1, 2] [] rfl rfl (by decide) (by decide) hk1 hFc hP1 hD1
  generalize H1 = H at hP hS ⊢
  have hP : va_P E.1 vwCl [] H := hP
  have hD : va_D A [] := hD
  refine lv_icmp_eq (tgt := 1029) hx hb dL_law_753 (by decide) (fun c9 => ?_) (fun c9 => absurd c9 (fun h => h (hw6.trans hw12.symm)))
  exact law_end l C0 hA hbA hAs _ _ hS _ _ _ (lv_sub hl [0, 1, 2, 3] rfl)
set_option maxHeartbeats 4000000 in
set_option maxRecDepth 100000 in
theorem op_pay {p : Program} {e : Env} {s : State} {m : MethodId} {below : List Frame} {meth : Method} {c : Code} (l : Launch) {b : Nat} {xs : Nat → Int32} (C0 : lw_At p s m meth c b 6 xs) {A : Nat → Prop} (hA : ∀ q : Nat, s.heap.size ≤ q → A q) (hbA : ¬ A b) (hAs : ∀ q : Nat, A q → s.heap.size ≤ q) (E : vE) (hkn : kn E s) (hst : st A s s.heap) (x0 h1 : Nat) (tp : Nat) (rd : Nat) (se : Nat) (ba : Nat) (of : Nat) (pl : Nat) (sr : Nat) (sc : Nat) (bo : Nat) (sp : Nat) (pa : Nat) (ru : Nat) (co : Nat) (tr : Nat) (fb : Nat → Option Nat) (wy : Nat) (q : Nat → Nat) (hfb : inR (xs 1) 0 5 = true → fb (xs 1).toNatClampNeg = some bo) (H : Heap) (locs : List Loc) (hP : va_P E.1 vwCl [(x0, .inr (11, [.ref tp, .ref rd, .ref se, .ref ba, .ref of, .ref pl, .ref sr, .ref sc, .int 0])), (ba, .inl (E.2 4, 6, .inr (.inr (.inr (.inr fb))))), (bo, .inr (0, [.ref sp, .ref pa, .int 0, .ref ru, .ref co, .ref tr])), (tr, .inr (4, [.ref wy, .int 0, .int 0, .int (-1), .int 0, .int 0, .int 0, .int 0, .int 0, .int 0, .int 0, .int 0, .int 0, .int 0, .int (-1), .int 0])), (h1, .inr (12, mO q)), (q 24, .inl (E.2 1, 6, .inl (fun _ => 0)))] H) (hD : va_D A [(x0, .inr (11, [.ref tp, .ref rd, .ref se, .ref ba, .ref of, .ref pl, .ref sr, .ref sc, .int 0])), (ba, .inl (E.2 4, 6, .inr (.inr (.inr (.inr fb))))), (bo, .inr (0, [.ref sp, .ref pa, .int 0, .ref ru, .ref co, .ref tr])), (tr, .inr (4, [.ref wy, .int 0, .int 0, .int (-1), .int 0, .int 0, .int 0, .int 0, .int 0, .int 0, .int 0, .int 0, .int 0, .int 0, .int (-1), .int 0])), (h1, .inr (12, mO q)), (q 24, .inl (E.2 1, 6, .inl (fun _ => 0)))]) (hS : va_S A s.heap H locs) (ls : Array Slot) (hl : lv_has ls 4 [(3, .int 0), (2, .ref h1), (1, .ref x0), (0, .ref b)]) : W p l e room_1 s m #[Value.ref b] below meth c H locs 600000 7302249 (lw_Z below #[Value.ref b] s) (F0 m 758 ls []) := by
  obtain ⟨hx, hb, hr, hml, hown0, hts0, hX, hbl, hlocks, hgv⟩ := id C0
  have hown : s.vm.findClass RL = some m.cls := hown0
  have hts : ∀ w ∈ wsL_law, w.before #[Value.ref b] s = true := fun w h => hts0 w (wsL_law_in w h)
  have hK := hkn.1
  refine lv_aload_n hx hb dL_law_758 rfl (lv_at hl 2 rfl) ?_
  refine lv_aload_n hx hb dL_law_759 rfl (lv_at hl 3 rfl) ?_
  refine lv_iload_n hx hb dL_law_760 rfl (lv_at hl 0 rfl) ?_
  refine lv_iconst (v := 1) hx hb dL_law_761 (by decide) ?_
  refine lv_iadd hx hb dL_law_762 ?_
  refine lv_topi (fun x1 ex1 => ?_)
  obtain rfl : x1 = 1 := ex1.trans (by decide +kernel)
  refine va_sld hx hb hX hbl hbA hS (show vp_in 1 6 from by unfold vp_in; decide) dL_law_763 ?_
  refine lv_topi (fun x2 ex2 => ?_)
  obtain rfl : x2 = xs 1 := ex2
  refine lv_aload_n hx hb dL_law_764 rfl (lv_at hl 3 rfl) ?_
  refine lv_iload_n hx hb dL_law_765 rfl (lv_at hl 0 rfl) ?_
  refine lv_iconst (v := 2) hx hb dL_law_766 (by decide) ?_
  refine lv_iadd hx hb dL_law_767 ?_
  refine lv_topi (fun x3 ex3 => ?_)
  obtain rfl : x3 = 2 := ex3.trans (by decide +kernel)
  refine va_sld hx hb hX hbl hbA hS (show vp_in 2 6 from by unfold vp_in; decide) dL_law_768 ?_
  refine lv_topi (fun x4 ex4 => ?_)
  obtain rfl : x4 = xs 2 := ex4
  refine lv_aload_n hx hb dL_law_769 rfl (lv_at hl 3 rfl) ?_
  refine lv_iload_n hx hb dL_law_770 rfl (lv_at hl 0 rfl) ?_
  refine lv_iconst (v := 3) hx hb dL_law_771 (by decide) ?_
  refine lv_iadd hx hb dL_law_772 ?_
  refine lv_topi (fun x5 ex5 => ?_)
  obtain rfl : x5 = 3 := ex5.trans (by decide +kernel)
  refine va_sld hx hb hX hbl hbA hS (show vp_in 3 6 from by unfold vp_in; decide) dL_law_773 ?_
  refine lv_topi (fun x6 ex6 => ?_)
  obtain rfl : x6 = xs 3 := ex6
  refine lv_aload_n hx hb dL_law_774 rfl (lv_at hl 3 rfl) ?_
  refine lv_iload_n hx hb dL_law_775 rfl (lv_at hl 0 rfl) ?_
  refine lv_iconst (v := 4) hx hb dL_law_776 (by decide) ?_
  refine lv_iadd hx hb dL_law_777 ?_
  refine lv_topi (fun x7 ex7 => ?_)
  obtain rfl : x7 = 4 := ex7.trans (by decide +kernel)
  refine va_sld hx hb hX hbl hbA hS (show vp_in 4 6 from by unfold vp_in; decide) dL_law_778 ?_
  refine lv_topi (fun x8 ex8 => ?_)
  obtain rfl : x8 = xs 4 := ex8
  refine lv_aload_n hx hb dL_law_779 rfl (lv_at hl 3 rfl) ?_
  refine lv_iload_n hx hb dL_law_780 rfl (lv_at hl 0 rfl) ?_
  refine lv_iconst (v := 5) hx hb dL_law_781 (by decide) ?_
  refine lv_iadd hx hb dL_law_782 ?_
  refine lv_topi (fun x9 ex9 => ?_)
  obtain rfl : x9 = 5 := ex9.trans (by decide +kernel)
  refine va_sld hx hb hX hbl hbA hS (show vp_in 5 6 from by unfold vp_in; decide) dL_law_783 ?_
  refine lv_topi (fun x10 ex10 => ?_)
  obtain rfl : x10 = xs 5 := ex10
  have hPc := hP.sub (ws' := [(x0, .inr (11, [.ref tp, .ref rd, .ref se, .ref ba, .ref of, .ref pl, .ref sr, .ref sc, .int 0])), (ba, .inl (E.2 4, 6, .inr (.inr (.inr (.inr fb))))), (bo, .inr (0, [.ref sp, .ref pa, .int 0, .ref ru, .ref co, .ref tr])), (tr, .inr (4, [.ref wy, .int 0, .int 0, .int (-1), .int 0, .int 0, .int 0, .int 0, .int 0, .int 0, .int 0, .int 0, .int 0, .int 0, .int (-1), .int 0]))]) [0, 1, 2, 3] rfl
  have hDc := hD.sub (ws' := [(x0, .inr (11, [.ref tp, .ref rd, .ref se, .ref ba, .ref of, .ref pl, .ref sr, .ref sc, .int 0])), (ba, .inl (E.2 4, 6, .inr (.inr (.inr (.inr fb))))), (bo, .inr (0, [.ref sp, .ref pa, .int 0, .ref ru, .ref co, .ref tr])), (tr, .inr (4, [.ref wy, .int 0, .int 0, .int (-1), .int 0, .int 0, .int 0, .int 0, .int 0, .int 0, .int 0, .int 0, .int 0, .int 0, .int (-1), .int 0]))]) [0, 1, 2, 3] (by decide) rfl
  have hFc := va_free (wc := [(x0, .inr (11, [.ref tp, .ref rd, .ref se, .ref ba, .ref of, .ref pl, .ref sr, .ref sc, .int 0])), (ba, .inl (E.2 4, 6, .inr (.inr (.inr (.inr fb))))), (bo, .inr (0, [.ref sp, .ref pa, .int 0, .ref ru, .ref co, .ref tr])), (tr, .inr (4, [.ref wy, .int 0, .int 0, .int (-1), .int 0, .int 0, .int 0, .int 0, .int 0, .int 0, .int 0, .int 0, .int 0, .int 0, .int (-1), .int 0]))]) hD hS hA [0, 1, 2, 3] rfl
  refine va_calli (va_runV (As := [.int (xs 1), .int (xs 2), .int (xs 3), .int (xs 4), .int (xs 5)]) (rest := []) ⟨hx, hb, hml, hown, hts⟩ (c_X11_pay l E x0 tp rd se ba of pl sr sc bo sp pa ru co tr fb wy (xs 1) (xs 2) (xs 3) (xs 4) (xs 5) H.size hfb) (cwV 5 hts gL_law_X11_pay rfl rfl rfl (by decide +kernel) ⟨Nat.le_of_ble_eq_true rfl, Nat.le_of_ble_eq_true rfl⟩) ⟨pcW_blind, va_recv hK hPc (ci := 11) (q0 := 0) rfl rfl, (pcW_pre hPc hkn hDc hst hS hFc)⟩ rfl rfl hl.1 rfl (lv_room (Nat.le_of_ble_eq_true rfl)) dL_law_784 ⟨Nat.le_of_ble_eq_true rfl, Nat.le_of_ble_eq_true rfl⟩) hS (fun q _ h => hFc q h) hFc (fun r11 u t H1 locs ht hvm hw12 hB hz1 hk1 hS => ?_)
  obtain ⟨hP1, hD1⟩ := hB
  rw [ht] at hP1
  try dsimp only at hw12
  obtain ⟨hP, hD⟩ := va_join (wr := [(h1, .inr (12, mO q)), (q 24, .inl (E.2 1, 6, .inl (fun _ => 0)))]) (w1 := []) hP hD [0, 1, 2, 3] [4, 5] rfl rfl (by decide) (by decide) hk1 hFc hP1 hD1
  generalize H1 = H at hP hS ⊢
  have hP : va_P E.1 vwCl [(h1, .inr (12, mO q)), (q 24, .inl (E.2 1, 6, .inl (fun _ => 0)))] H := hP
  have hD : va_D A [(h1, .inr (12, mO q)), (q 24, .inl (E.2 1, 6, .inl (fun _ => 0)))] := hD
  refine lv_aload_n hx hb dL_law_787 rfl (lv_at hl 1 rfl) ?_
  refine lv_aload_n hx hb dL_law_788 rfl (lv_at hl 3 rfl) ?_
  refine lv_iload_n hx hb dL_law_789 rfl (lv_at hl 0 rfl) ?_
  refine lv_iconst (v := 1) hx hb dL_law_790 (by decide) ?_
  refine lv_iadd hx hb dL_law_791 ?_
  refine lv_topi (fun x13 ex13 => ?_)
  obtain rfl : x13 = 1 := ex13.trans (by decide +kernel)
  refine va_sld hx hb hX hbl hbA hS (show vp_in 1 6 from by unfold vp_in; decide) dL_law_792 ?_
  refine lv_topi (fun x14 ex14 => ?_)
  obtain rfl : x14 = xs 1 := ex14
  refine lv_aload_n hx hb dL_law_793 rfl (lv_at hl 3 rfl) ?_
  refine lv_iload_n hx hb dL_law_794 rfl (lv_at hl 0 rfl) ?_
  refine lv_iconst (v := 2) hx hb dL_law_795 (by decide) ?_
  refine lv_iadd hx hb dL_law_796 ?_
  refine lv_topi (fun x15 ex15 => ?_)
  obtain rfl : x15 = 2 := ex15.trans (by decide +kernel)
  refine va_sld hx hb hX hbl hbA hS (show vp_in 2 6 from by unfold vp_in; decide) dL_law_797 ?_
  refine lv_topi (fun x16 ex16 => ?_)
  obtain rfl : x16 = xs 2 := ex16
  refine lv_aload_n hx hb dL_law_798 rfl (lv_at hl 3 rfl) ?_
  refine lv_iload_n hx hb dL_law_799 rfl (lv_at hl 0 rfl) ?_
  refine lv_iconst (v := 3) hx hb dL_law_800 (by decide) ?_
  refine lv_iadd hx hb dL_law_801 ?_
  refine lv_topi (fun x17 ex17 => ?_)
  obtain rfl : x17 = 3 := ex17.trans (by decide +kernel)
  refine va_sld hx hb hX hbl hbA hS (show vp_in 3 6 from by unfold vp_in; decide) dL_law_802 ?_
  refine lv_topi (fun x18 ex18 => ?_)
  obtain rfl : x18 = xs 3 := ex18
  refine lv_aload_n hx hb dL_law_803 rfl (lv_at hl 3 rfl) ?_
  refine lv_iload_n hx hb dL_law_804 rfl (lv_at hl 0 rfl) ?_
  refine lv_iconst (v := 4) hx hb dL_law_805 (by decide) ?_
  refine lv_iadd hx hb dL_law_806 ?_
  refine lv_topi (fun x19 ex19 => ?_)
  obtain rfl : x19 = 4 := ex19.trans (by decide +kernel)
  refine va_sld hx hb hX hbl hbA hS (show vp_in 4 6 from by unfold vp_in; decide) dL_law_807 ?_
  refine lv_topi (fun x20 ex20 => ?_)
  obtain rfl : x20 = xs 4 := ex20
  refine lv_aload_n hx hb dL_law_808 rfl (lv_at hl 3 rfl) ?_
  refine lv_iload_n hx hb dL_law_809 rfl (lv_at hl 0 rfl) ?_
  refine lv_iconst (v := 5) hx hb dL_law_810 (by decide) ?_
  refine lv_iadd hx hb dL_law_811 ?_
  refine lv_topi (fun x21 ex21 => ?_)
  obtain rfl : x21 = 5 := ex21.trans (by decide +kernel)
  refine va_sld hx hb hX hbl hbA hS (show vp_in 5 6 from by unfold vp_in; decide) dL_law_812 ?_
  refine lv_topi (fun x22 ex22 => ?_)
  obtain rfl : x22 = xs 5 := ex22
  have hPc := hP.sub (ws' := [(h1, .inr (12, mO q)), (q 24, .inl (E.2 1, 6, .inl (fun _ => 0)))]) [0, 1] rfl
  have hDc := hD.sub (ws' := [(h1, .inr (12, mO q)), (q 24, .inl (E.2 1, 6, .inl (fun _ => 0)))]) [0, 1] (by decide) rfl
  have hFc := va_free (wc := [(h1, .inr (12, mO q)), (q 24, .inl (E.2 1, 6, .inl (fun _ => 0)))]) hD hS hA [0, 1] rfl
  refine va_calli (va_runV (As := [.int (xs 1), .int (xs 2), .int (xs 3), .int (xs 4), .int (xs 5)]) (rest := [.int r11]) ⟨hx, hb, hml, hown, hts⟩ (c_X12_pay l E h1 q (xs 1) (xs 2) (xs 3) (xs 4) (xs 5) H.size ) (cwV 5 hts gL_law_X12_pay rfl rfl rfl (by decide +kernel) ⟨Nat.le_of_ble_eq_true rfl, Nat.le_of_ble_eq_true rfl⟩) ⟨pcW_blind, va_recv hK hPc (ci := 12) (q0 := 0) rfl rfl, (pcW_pre hPc hkn hDc hst hS hFc)⟩ rfl rfl hl.1 rfl (lv_room (Nat.le_of_ble_eq_true rfl)) dL_law_813 ⟨Nat.le_of_ble_eq_true rfl, Nat.le_of_ble_eq_true rfl⟩) hS (fun q _ h => hFc q h) hFc (fun r23 u t H1 locs ht hvm hw24 hB hz1 hk1 hS => ?_)
  obtain ⟨hP1, hD1⟩ := hB
  rw [ht] at hP1
  try dsimp only at hw24
  obtain ⟨hP, hD⟩ := va_join (wr := []) (w1 := []) hP hD [0, 1] [] rfl rfl (by decide) (by decide) hk1 hFc hP1 hD1
  generalize H1 = H at hP hS ⊢
  have hP : va_P E.1 vwCl [] H := hP
  have hD : va_D A [] := hD
  refine lv_icmp_eq (tgt := 1029) hx hb dL_law_816 (by decide) (fun c9 => ?_) (fun c9 => absurd c9 (fun h => h (hw12.trans hw24.symm)))
  exact law_end l C0 hA hbA hAs _ _ hS _ _ _ (lv_sub hl [0, 1, 2, 3] rfl)
set_option maxHeartbeats 4000000 in
set_option maxRecDepth 100000 in
theorem op_deliver {p : Program} {e : Env} {s : State} {m : MethodId} {below : List Frame} {meth : Method} {c : Code} (l : Launch) {b : Nat} {xs : Nat → Int32} (C0 : lw_At p s m meth c b 6 xs) {A : Nat → Prop} (hA : ∀ q : Nat, s.heap.size ≤ q → A q) (hbA : ¬ A b) (hAs : ∀ q : Nat, A q → s.heap.size ≤ q) (E : vE) (hkn : kn E s) (hst : st A s s.heap) (x0 h1 : Nat) (tp : Nat) (rd : Nat) (se : Nat) (ba : Nat) (of : Nat) (pl : Nat) (sr : Nat) (sc : Nat) (g1 : Nat) (g2 : Nat) (g3 : Nat) (g4 : Nat) (g5 : Nat) (g6 : Nat) (g7 : Nat) (g8 : Nat) (k1 : Nat) (k2 : Nat) (k3 : Nat) (k4 : Nat) (q : Nat → Nat) (H : Heap) (locs : List Loc) (hP : va_P E.1 vwCl [(x0, .inr (11, [.ref tp, .ref rd, .ref se, .ref ba, .ref of, .ref pl, .ref sr, .ref sc, .int 0])), (pl, .inr (5, [.ref of, .ref k1, .ref k2, .ref k3, .ref k4, .int 0, .int 0, .int 0])), (of, .inr (2, [.ref g1, .ref g2, .ref g3, .ref g4, .ref g5, .int 0, .ref g6, .ref g7, .ref g8])), (g1, .inl (E.2 0, 7, .inl (fun _ => 0))), (g2, .inl (E.2 0, 7, .inl (fun _ => 0))), (g3, .inl (E.2 0, 7, .inl (fun _ => 0))), (g4, .inl (E.2 0, 7, .inl (fun _ => 0))), (g5, .inl (E.2 0, 7, .inl (fun _ => 0))), (h1, .inr (12, mO q)), (q 42, .inl (E.2 0, 7, .inl (fun _ => 0))), (q 43, .inl (E.2 0, 7, .inl (fun _ => 0))), (q 44, .inl (E.2 0, 7, .inl (fun _ => 0))), (q 45, .inl (E.2 0, 7, .inl (fun _ => 0))), (q 46, .inl (E.2 0, 7, .inl (fun _ => 0)))] H) (hD : va_D A [(x0, .inr (11, [.ref tp, .ref rd, .ref se, .ref ba, .ref of, .ref pl, .ref sr, .ref sc, .int 0])), (pl, .inr (5, [.ref of, .ref k1, .ref k2, .ref k3, .ref k4, .int 0, .int 0, .int 0])), (of, .inr (2, [.ref g1, .ref g2, .ref g3, .ref g4, .ref g5, .int 0, .ref g6, .ref g7, .ref g8])), (g1, .inl (E.2 0, 7, .inl (fun _ => 0))), (g2, .inl (E.2 0, 7, .inl (fun _ => 0))), (g3, .inl (E.2 0, 7, .inl (fun _ => 0))), (g4, .inl (E.2 0, 7, .inl (fun _ => 0))), (g5, .inl (E.2 0, 7, .inl (fun _ => 0))), (h1, .inr (12, mO q)), (q 42, .inl (E.2 0, 7, .inl (fun _ => 0))), (q 43, .inl (E.2 0, 7, .inl (fun _ => 0))), (q 44, .inl (E.2 0, 7, .inl (fun _ => 0))), (q 45, .inl (E.2 0, 7, .inl (fun _ => 0))), (q 46, .inl (E.2 0, 7, .inl (fun _ => 0)))]) (hS : va_S A s.heap H locs) (ls : Array Slot) (hl : lv_has ls 4 [(3, .int 0), (2, .ref h1), (1, .ref x0), (0, .ref b)]) : W p l e room_1 s m #[Value.ref b] below meth c H locs 600000 7302249 (lw_Z below #[Value.ref b] s) (F0 m 821 ls []) := by
  obtain ⟨hx, hb, hr, hml, hown0, hts0, hX, hbl, hlocks, hgv⟩ := id C0
  have hown : s.vm.findClass RL = some m.cls := hown0
  have hts : ∀ w ∈ wsL_law, w.before #[Value.ref b] s = true := fun w h => hts0 w (wsL_law_in w h)
  have hK := hkn.1
  refine lv_aload_n hx hb dL_law_821 rfl (lv_at hl 2 rfl) ?_
  refine lv_aload_n hx hb dL_law_822 rfl (lv_at hl 3 rfl) ?_
  refine lv_iload_n hx hb dL_law_823 rfl (lv_at hl 0 rfl) ?_
  refine lv_iconst (v := 1) hx hb dL_law_824 (by decide) ?_
  refine lv_iadd hx hb dL_law_825 ?_
  refine lv_topi (fun x1 ex1 => ?_)
  obtain rfl : x1 = 1 := ex1.trans (by decide +kernel)
  refine va_sld hx hb hX hbl hbA hS (show vp_in 1 6 from by unfold vp_in; decide) dL_law_826 ?_
  refine lv_topi (fun x2 ex2 => ?_)
  obtain rfl : x2 = xs 1 := ex2
  refine lv_aload_n hx hb dL_law_827 rfl (lv_at hl 3 rfl) ?_
  refine lv_iload_n hx hb dL_law_828 rfl (lv_at hl 0 rfl) ?_
  refine lv_iconst (v := 2) hx hb dL_law_829 (by decide) ?_
  refine lv_iadd hx hb dL_law_830 ?_
  refine lv_topi (fun x3 ex3 => ?_)
  obtain rfl : x3 = 2 := ex3.trans (by decide +kernel)
  refine va_sld hx hb hX hbl hbA hS (show vp_in 2 6 from by unfold vp_in; decide) dL_law_831 ?_
  refine lv_topi (fun x4 ex4 => ?_)
  obtain rfl : x4 = xs 2 := ex4
  refine lv_aload_n hx hb dL_law_832 rfl (lv_at hl 3 rfl) ?_
  refine lv_iload_n hx hb dL_law_833 rfl (lv_at hl 0 rfl) ?_
  refine lv_iconst (v := 3) hx hb dL_law_834 (by decide) ?_
  refine lv_iadd hx hb dL_law_835 ?_
  refine lv_topi (fun x5 ex5 => ?_)
  obtain rfl : x5 = 3 := ex5.trans (by decide +kernel)
  refine va_sld hx hb hX hbl hbA hS (show vp_in 3 6 from by unfold vp_in; decide) dL_law_836 ?_
  refine lv_topi (fun x6 ex6 => ?_)
  obtain rfl : x6 = xs 3 := ex6
  refine lv_aload_n hx hb dL_law_837 rfl (lv_at hl 3 rfl) ?_
  refine lv_iload_n hx hb dL_law_838 rfl (lv_at hl 0 rfl) ?_
  refine lv_iconst (v := 4) hx hb dL_law_839 (by decide) ?_
  refine lv_iadd hx hb dL_law_840 ?_
  refine lv_topi (fun x7 ex7 => ?_)
  obtain rfl : x7 = 4 := ex7.trans (by decide +kernel)
  refine va_sld hx hb hX hbl hbA hS (show vp_in 4 6 from by unfold vp_in; decide) dL_law_841 ?_
  refine lv_topi (fun x8 ex8 => ?_)
  obtain rfl : x8 = xs 4 := ex8
  refine lv_aload_n hx hb dL_law_842 rfl (lv_at hl 3 rfl) ?_
  refine lv_iload_n hx hb dL_law_843 rfl (lv_at hl 0 rfl) ?_
  refine lv_iconst (v := 5) hx hb dL_law_844 (by decide) ?_
  refine lv_iadd hx hb dL_law_845 ?_
  refine lv_topi (fun x9 ex9 => ?_)
  obtain rfl : x9 = 5 := ex9.trans (by decide +kernel)
  refine va_sld hx hb hX hbl hbA hS (show vp_in 5 6 from by unfold vp_in; decide) dL_law_846 ?_
  refine lv_topi (fun x10 ex10 => ?_)
  obtain rfl : x10 = xs 5 := ex10
  have hPc := hP.sub (ws' := [(x0, .inr (11, [.ref tp, .ref rd, .ref se, .ref ba, .ref of, .ref pl, .ref sr, .ref sc, .int 0])), (pl, .inr (5, [.ref of, .ref k1, .ref k2, .ref k3, .ref k4, .int 0, .int 0, .int 0])), (of, .inr (2, [.ref g1, .ref g2, .ref g3, .ref g4, .ref g5, .int 0, .ref g6, .ref g7, .ref g8])), (g1, .inl (E.2 0, 7, .inl (fun _ => 0))), (g2, .inl (E.2 0, 7, .inl (fun _ => 0))), (g3, .inl (E.2 0, 7, .inl (fun _ => 0))), (g4, .inl (E.2 0, 7, .inl (fun _ => 0))), (g5, .inl (E.2 0, 7, .inl (fun _ => 0)))]) [0, 1, 2, 3, 4, 5, 6, 7] rfl
  have hDc := hD.sub (ws' := [(x0, .inr (11, [.ref tp, .ref rd, .ref se, .ref ba, .ref of, .ref pl, .ref sr, .ref sc, .int 0])), (pl, .inr (5, [.ref of, .ref k1, .ref k2, .ref k3, .ref k4, .int 0, .int 0, .int 0])), (of, .inr (2, [.ref g1, .ref g2, .ref g3, .ref g4, .ref g5, .int 0, .ref g6, .ref g7, .ref g8])), (g1, .inl (E.2 0, 7, .inl (fun _ => 0))), (g2, .inl (E.2 0, 7, .inl (fun _ => 0))), (g3, .inl (E.2 0, 7, .inl (fun _ => 0))), (g4, .inl (E.2 0, 7, .inl (fun _ => 0))), (g5, .inl (E.2 0, 7, .inl (fun _ => 0)))]) [0, 1, 2, 3, 4, 5, 6, 7] (by decide) rfl
  have hFc := va_free (wc := [(x0, .inr (11, [.ref tp, .ref rd, .ref se, .ref ba, .ref of, .ref pl, .ref sr, .ref sc, .int 0])), (pl, .inr (5, [.ref of, .ref k1, .ref k2, .ref k3, .ref k4, .int 0, .int 0, .int 0])), (of, .inr (2, [.ref g1, .ref g2, .ref g3, .ref g4, .ref g5, .int 0, .ref g6, .ref g7, .ref g8])), (g1, .inl (E.2 0, 7, .inl (fun _ => 0))), (g2, .inl (E.2 0, 7, .inl (fun _ => 0))), (g3, .inl (E.2 0, 7, .inl (fun _ => 0))), (g4, .inl (E.2 0, 7, .inl (fun _ => 0))), (g5, .inl (E.2 0, 7, .inl (fun _ => 0)))]) hD hS hA [0, 1, 2, 3, 4, 5, 6, 7] rfl
  refine va_calli (va_runV (As := [.int (xs 1), .int (xs 2), .int (xs 3), .int (xs 4), .int (xs 5)]) (rest := []) ⟨hx, hb, hml, hown, hts⟩ (c_X11_deliver l E x0 tp rd se ba of pl sr sc g1 g2 g3 g4 g5 g6 g7 g8 k1 k2 k3 k4 (xs 1) (xs 2) (xs 3) (xs 4) (xs 5) H.size ) (cwV 5 hts gL_law_X11_deliver rfl rfl rfl (by decide +kernel) ⟨Nat.le_of_ble_eq_true rfl, Nat.le_of_ble_eq_true rfl⟩) ⟨pcW_blind, va_recv hK hPc (ci := 11) (q0 := 0) rfl rfl, (pcW_pre hPc hkn hDc hst hS hFc)⟩ rfl rfl hl.1 rfl (lv_room (Nat.le_of_ble_eq_true rfl)) dL_law_847 ⟨Nat.le_of_ble_eq_true rfl, Nat.le_of_ble_eq_true rfl⟩) hS (fun q _ h => hFc q h) hFc (fun r11 u t H1 locs ht hvm hw12 hB hz1 hk1 hS => ?_)
  obtain ⟨hP1, hD1⟩ := hB
  rw [ht] at hP1
  try dsimp only at hw12
  obtain ⟨hP, hD⟩ := va_join (wr := [(h1, .inr (12, mO q)), (q 42, .inl (E.2 0, 7, .inl (fun _ => 0))), (q 43, .inl (E.2 0, 7, .inl (fun _ => 0))), (q 44, .inl (E.2 0, 7, .inl (fun _ => 0))), (q 45, .inl (E.2 0, 7, .inl (fun _ => 0))), (q 46, .inl (E.2 0, 7, .inl (fun _ => 0)))]) (w1 := []) hP hD [0, 1, 2, 3, 4, 5, 6, 7] [8, 9, 10, 11, 12, 13] rfl rfl (by decide) (by decide) hk1 hFc hP1 hD1
  generalize H1 = H at hP hS ⊢
  have hP : va_P E.1 vwCl [(h1, .inr (12, mO q)), (q 42, .inl (E.2 0, 7, .inl (fun _ => 0))), (q 43, .inl (E.2 0, 7, .inl (fun _ => 0))), (q 44, .inl (E.2 0, 7, .inl (fun _ => 0))), (q 45, .inl (E.2 0, 7, .inl (fun _ => 0))), (q 46, .inl (E.2 0, 7, .inl (fun _ => 0)))] H := hP
  have hD : va_D A [(h1, .inr (12, mO q)), (q 42, .inl (E.2 0, 7, .inl (fun _ => 0))), (q 43, .inl (E.2 0, 7, .inl (fun _ => 0))), (q 44, .inl (E.2 0, 7, .inl (fun _ => 0))), (q 45, .inl (E.2 0, 7, .inl (fun _ => 0))), (q 46, .inl (E.2 0, 7, .inl (fun _ => 0)))] := hD
  refine lv_aload_n hx hb dL_law_850 rfl (lv_at hl 1 rfl) ?_
  refine lv_aload_n hx hb dL_law_851 rfl (lv_at hl 3 rfl) ?_
  refine lv_iload_n hx hb dL_law_852 rfl (lv_at hl 0 rfl) ?_
  refine lv_iconst (v := 1) hx hb dL_law_853 (by decide) ?_
  refine lv_iadd hx hb dL_law_854 ?_
  refine lv_topi (fun x13 ex13 => ?_)
  obtain rfl : x13 = 1 := ex13.trans (by decide +kernel)
  refine va_sld hx hb hX hbl hbA hS (show vp_in 1 6 from by unfold vp_in; decide) dL_law_855 ?_
  refine lv_topi (fun x14 ex14 => ?_)
  obtain rfl : x14 = xs 1 := ex14
  refine lv_aload_n hx hb dL_law_856 rfl (lv_at hl 3 rfl) ?_
  refine lv_iload_n hx hb dL_law_857 rfl (lv_at hl 0 rfl) ?_
  refine lv_iconst (v := 2) hx hb dL_law_858 (by decide) ?_
  refine lv_iadd hx hb dL_law_859 ?_
  refine lv_topi (fun x15 ex15 => ?_)
  obtain rfl : x15 = 2 := ex15.trans (by decide +kernel)
  refine va_sld hx hb hX hbl hbA hS (show vp_in 2 6 from by unfold vp_in; decide) dL_law_860 ?_
  refine lv_topi (fun x16 ex16 => ?_)
  obtain rfl : x16 = xs 2 := ex16
  refine lv_aload_n hx hb dL_law_861 rfl (lv_at hl 3 rfl) ?_
  refine lv_iload_n hx hb dL_law_862 rfl (lv_at hl 0 rfl) ?_
  refine lv_iconst (v := 3) hx hb dL_law_863 (by decide) ?_
  refine lv_iadd hx hb dL_law_864 ?_
  refine lv_topi (fun x17 ex17 => ?_)
  obtain rfl : x17 = 3 := ex17.trans (by decide +kernel)
  refine va_sld hx hb hX hbl hbA hS (show vp_in 3 6 from by unfold vp_in; decide) dL_law_865 ?_
  refine lv_topi (fun x18 ex18 => ?_)
  obtain rfl : x18 = xs 3 := ex18
  refine lv_aload_n hx hb dL_law_866 rfl (lv_at hl 3 rfl) ?_
  refine lv_iload_n hx hb dL_law_867 rfl (lv_at hl 0 rfl) ?_
  refine lv_iconst (v := 4) hx hb dL_law_868 (by decide) ?_
  refine lv_iadd hx hb dL_law_869 ?_
  refine lv_topi (fun x19 ex19 => ?_)
  obtain rfl : x19 = 4 := ex19.trans (by decide +kernel)
  refine va_sld hx hb hX hbl hbA hS (show vp_in 4 6 from by unfold vp_in; decide) dL_law_870 ?_
  refine lv_topi (fun x20 ex20 => ?_)
  obtain rfl : x20 = xs 4 := ex20
  refine lv_aload_n hx hb dL_law_871 rfl (lv_at hl 3 rfl) ?_
  refine lv_iload_n hx hb dL_law_872 rfl (lv_at hl 0 rfl) ?_
  refine lv_iconst (v := 5) hx hb dL_law_873 (by decide) ?_
  refine lv_iadd hx hb dL_law_874 ?_
  refine lv_topi (fun x21 ex21 => ?_)
  obtain rfl : x21 = 5 := ex21.trans (by decide +kernel)
  refine va_sld hx hb hX hbl hbA hS (show vp_in 5 6 from by unfold vp_in; decide) dL_law_875 ?_
  refine lv_topi (fun x22 ex22 => ?_)
  obtain rfl : x22 = xs 5 := ex22
  have hPc := hP.sub (ws' := [(h1, .inr (12, mO q)), (q 42, .inl (E.2 0, 7, .inl (fun _ => 0))), (q 43, .inl (E.2 0, 7, .inl (fun _ => 0))), (q 44, .inl (E.2 0, 7, .inl (fun _ => 0))), (q 45, .inl (E.2 0, 7, .inl (fun _ => 0))), (q 46, .inl (E.2 0, 7, .inl (fun _ => 0)))]) [0, 1, 2, 3, 4, 5] rfl
  have hDc := hD.sub (ws' := [(h1, .inr (12, mO q)), (q 42, .inl (E.2 0, 7, .inl (fun _ => 0))), (q 43, .inl (E.2 0, 7, .inl (fun _ => 0))), (q 44, .inl (E.2 0, 7, .inl (fun _ => 0))), (q 45, .inl (E.2 0, 7, .inl (fun _ => 0))), (q 46, .inl (E.2 0, 7, .inl (fun _ => 0)))]) [0, 1, 2, 3, 4, 5] (by decide) rfl
  have hFc := va_free (wc := [(h1, .inr (12, mO q)), (q 42, .inl (E.2 0, 7, .inl (fun _ => 0))), (q 43, .inl (E.2 0, 7, .inl (fun _ => 0))), (q 44, .inl (E.2 0, 7, .inl (fun _ => 0))), (q 45, .inl (E.2 0, 7, .inl (fun _ => 0))), (q 46, .inl (E.2 0, 7, .inl (fun _ => 0)))]) hD hS hA [0, 1, 2, 3, 4, 5] rfl
  refine va_calli (va_runV (As := [.int (xs 1), .int (xs 2), .int (xs 3), .int (xs 4), .int (xs 5)]) (rest := [.int r11]) ⟨hx, hb, hml, hown, hts⟩ (c_X12_deliver l E h1 q (xs 1) (xs 2) (xs 3) (xs 4) (xs 5) H.size ) (cwV 5 hts gL_law_X12_deliver rfl rfl rfl (by decide +kernel) ⟨Nat.le_of_ble_eq_true rfl, Nat.le_of_ble_eq_true rfl⟩) ⟨pcW_blind, va_recv hK hPc (ci := 12) (q0 := 0) rfl rfl, (pcW_pre hPc hkn hDc hst hS hFc)⟩ rfl rfl hl.1 rfl (lv_room (Nat.le_of_ble_eq_true rfl)) dL_law_876 ⟨Nat.le_of_ble_eq_true rfl, Nat.le_of_ble_eq_true rfl⟩) hS (fun q _ h => hFc q h) hFc (fun r23 u t H1 locs ht hvm hw24 hB hz1 hk1 hS => ?_)
  obtain ⟨hP1, hD1⟩ := hB
  rw [ht] at hP1
  try dsimp only at hw24
  obtain ⟨hP, hD⟩ := va_join (wr := []) (w1 := []) hP hD [0, 1, 2, 3, 4, 5] [] rfl rfl (by decide) (by decide) hk1 hFc hP1 hD1
  generalize H1 = H at hP hS ⊢
  have hP : va_P E.1 vwCl [] H := hP
  have hD : va_D A [] := hD
  refine lv_icmp_eq (tgt := 1029) hx hb dL_law_879 (by decide) (fun c9 => ?_) (fun c9 => absurd c9 (fun h => h (hw12.trans hw24.symm)))
  exact law_end l C0 hA hbA hAs _ _ hS _ _ _ (lv_sub hl [0, 1, 2, 3] rfl)
set_option maxHeartbeats 4000000 in
set_option maxRecDepth 100000 in
theorem op_crew {p : Program} {e : Env} {s : State} {m : MethodId} {below : List Frame} {meth : Method} {c : Code} (l : Launch) {b : Nat} {xs : Nat → Int32} (C0 : lw_At p s m meth c b 6 xs) {A : Nat → Prop} (hA : ∀ q : Nat, s.heap.size ≤ q → A q) (hbA : ¬ A b) (hAs : ∀ q : Nat, A q → s.heap.size ≤ q) (E : vE) (hkn : kn E s) (hst : st A s s.heap) (x0 h1 : Nat) (tp : Nat) (rd : Nat) (se : Nat) (ba : Nat) (of : Nat) (pl : Nat) (sr : Nat) (sc : Nat) (g1 : Nat) (g2 : Nat) (g3 : Nat) (g4 : Nat) (g5 : Nat) (g6 : Nat) (g7 : Nat) (g8 : Nat) (k1 : Nat) (k2 : Nat) (k3 : Nat) (k4 : Nat) (fc : Nat → Int32) (q : Nat → Nat) (gc : Nat → Int32) (H : Heap) (locs : List Loc) (hP : va_P E.1 vwCl [(x0, .inr (11, [.ref tp, .ref rd, .ref se, .ref ba, .ref of, .ref pl, .ref sr, .ref sc, .int 0])), (pl, .inr (5, [.ref of, .ref k1, .ref k2, .ref k3, .ref k4, .int 0, .int 0, .int 0])), (of, .inr (2, [.ref g1, .ref g2, .ref g3, .ref g4, .ref g5, .int 0, .ref g6, .ref g7, .ref g8])), (g6, .inl (E.2 0, 4, .inl fc)), (g7, .inl (E.2 0, 4, .inl (fun _ => 0))), (h1, .inr (12, mO q)), (q 47, .inl (E.2 0, 4, .inl gc)), (q 48, .inl (E.2 0, 4, .inl (fun _ => 0)))] H) (hD : va_D A [(x0, .inr (11, [.ref tp, .ref rd, .ref se, .ref ba, .ref of, .ref pl, .ref sr, .ref sc, .int 0])), (pl, .inr (5, [.ref of, .ref k1, .ref k2, .ref k3, .ref k4, .int 0, .int 0, .int 0])), (of, .inr (2, [.ref g1, .ref g2, .ref g3, .ref g4, .ref g5, .int 0, .ref g6, .ref g7, .ref g8])), (g6, .inl (E.2 0, 4, .inl fc)), (g7, .inl (E.2 0, 4, .inl (fun _ => 0))), (h1, .inr (12, mO q)), (q 47, .inl (E.2 0, 4, .inl gc)), (q 48, .inl (E.2 0, 4, .inl (fun _ => 0)))]) (hS : va_S A s.heap H locs) (ls : Array Slot) (hl : lv_has ls 4 [(3, .int 0), (2, .ref h1), (1, .ref x0), (0, .ref b)]) : W p l e room_1 s m #[Value.ref b] below meth c H locs 600000 7302249 (lw_Z below #[Value.ref b] s) (F0 m 884 ls []) := by
  obtain ⟨hx, hb, hr, hml, hown0, hts0, hX, hbl, hlocks, hgv⟩ := id C0
  have hown : s.vm.findClass RL = some m.cls := hown0
  have hts : ∀ w ∈ wsL_law, w.before #[Value.ref b] s = true := fun w h => hts0 w (wsL_law_in w h)
  have hK := hkn.1
  refine lv_aload_n hx hb dL_law_884 rfl (lv_at hl 2 rfl) ?_
  refine lv_aload_n hx hb dL_law_885 rfl (lv_at hl 3 rfl) ?_
  refine lv_iload_n hx hb dL_law_886 rfl (lv_at hl 0 rfl) ?_
  refine lv_iconst (v := 1) hx hb dL_law_887 (by decide) ?_
  refine lv_iadd hx hb dL_law_888 ?_
  refine lv_topi (fun x1 ex1 => ?_)
  obtain rfl : x1 = 1 := ex1.trans (by decide +kernel)
  refine va_sld hx hb hX hbl hbA hS (show vp_in 1 6 from by unfold vp_in; decide) dL_law_889 ?_
  refine lv_topi (fun x2 ex2 => ?_)
  obtain rfl : x2 = xs 1 := ex2
  refine lv_aload_n hx hb dL_law_890 rfl (lv_at hl 3 rfl) ?_
  refine lv_iload_n hx hb dL_law_891 rfl (lv_at hl 0 rfl) ?_
  refine lv_iconst (v := 2) hx hb dL_law_892 (by decide) ?_
  refine lv_iadd hx hb dL_law_893 ?_
  refine lv_topi (fun x3 ex3 => ?_)
  obtain rfl : x3 = 2 := ex3.trans (by decide +kernel)
  refine va_sld hx hb hX hbl hbA hS (show vp_in 2 6 from by unfold vp_in; decide) dL_law_894 ?_
  refine lv_topi (fun x4 ex4 => ?_)
  obtain rfl : x4 = xs 2 := ex4
  refine lv_aload_n hx hb dL_law_895 rfl (lv_at hl 3 rfl) ?_
  refine lv_iload_n hx hb dL_law_896 rfl (lv_at hl 0 rfl) ?_
  refine lv_iconst (v := 3) hx hb dL_law_897 (by decide) ?_
  refine lv_iadd hx hb dL_law_898 ?_
  refine lv_topi (fun x5 ex5 => ?_)
  obtain rfl : x5 = 3 := ex5.trans (by decide +kernel)
  refine va_sld hx hb hX hbl hbA hS (show vp_in 3 6 from by unfold vp_in; decide) dL_law_899 ?_
  refine lv_topi (fun x6 ex6 => ?_)
  obtain rfl : x6 = xs 3 := ex6
  have hPc := hP.sub (ws' := [(x0, .inr (11, [.ref tp, .ref rd, .ref se, .ref ba, .ref of, .ref pl, .ref sr, .ref sc, .int 0])), (pl, .inr (5, [.ref of, .ref k1, .ref k2, .ref k3, .ref k4, .int 0, .int 0, .int 0])), (of, .inr (2, [.ref g1, .ref g2, .ref g3, .ref g4, .ref g5, .int 0, .ref g6, .ref g7, .ref g8])), (g6, .inl (E.2 0, 4, .inl fc)), (g7, .inl (E.2 0, 4, .inl (fun _ => 0)))]) [0, 1, 2, 3, 4] rfl
  have hDc := hD.sub (ws' := [(x0, .inr (11, [.ref tp, .ref rd, .ref se, .ref ba, .ref of, .ref pl, .ref sr, .ref sc, .int 0])), (pl, .inr (5, [.ref of, .ref k1, .ref k2, .ref k3, .ref k4, .int 0, .int 0, .int 0])), (of, .inr (2, [.ref g1, .ref g2, .ref g3, .ref g4, .ref g5, .int 0, .ref g6, .ref g7, .ref g8])), (g6, .inl (E.2 0, 4, .inl fc)), (g7, .inl (E.2 0, 4, .inl (fun _ => 0)))]) [0, 1, 2, 3, 4] (by decide) rfl
  have hFc := va_free (wc := [(x0, .inr (11, [.ref tp, .ref rd, .ref se, .ref ba, .ref of, .ref pl, .ref sr, .ref sc, .int 0])), (pl, .inr (5, [.ref of, .ref k1, .ref k2, .ref k3, .ref k4, .int 0, .int 0, .int 0])), (of, .inr (2, [.ref g1, .ref g2, .ref g3, .ref g4, .ref g5, .int 0, .ref g6, .ref g7, .ref g8])), (g6, .inl (E.2 0, 4, .inl fc)), (g7, .inl (E.2 0, 4, .inl (fun _ => 0)))]) hD hS hA [0, 1, 2, 3, 4] rfl
  refine va_calli (va_runV (As := [.int (xs 1), .int (xs 2), .int (xs 3)]) (rest := []) ⟨hx, hb, hml, hown, hts⟩ (c_X11_crew l E x0 tp rd se ba of pl sr sc g1 g2 g3 g4 g5 g6 g7 g8 k1 k2 k3 k4 (xs 1) (xs 2) (xs 3) fc H.size ) (cwV 3 hts gL_law_X11_crew rfl rfl rfl (by decide +kernel) ⟨Nat.le_of_ble_eq_true rfl, Nat.le_of_ble_eq_true rfl⟩) ⟨pcW_blind, va_recv hK hPc (ci := 11) (q0 := 0) rfl rfl, (pcW_pre hPc hkn hDc hst hS hFc)⟩ rfl rfl hl.1 rfl (lv_room (Nat.le_of_ble_eq_true rfl)) dL_law_900 ⟨Nat.le_of_ble_eq_true rfl, Nat.le_of_ble_eq_true rfl⟩) hS (fun q _ h => hFc q h) hFc (fun r7 u t H1 locs ht hvm hw8 hB hz1 hk1 hS => ?_)
  obtain ⟨hP1, hD1⟩ := hB
  rw [ht] at hP1
  try dsimp only at hw8
  obtain ⟨hP, hD⟩ := va_join (wr := [(h1, .inr (12, mO q)), (q 47, .inl (E.2 0, 4, .inl gc)), (q 48, .inl (E.2 0, 4, .inl (fun _ => 0)))]) (w1 := []) hP hD [0, 1, 2, 3, 4] [5, 6, 7] rfl rfl (by decide) (by decide) hk1 hFc hP1 hD1
  generalize H1 = H at hP hS ⊢
  have hP : va_P E.1 vwCl [(h1, .inr (12, mO q)), (q 47, .inl (E.2 0, 4, .inl gc)), (q 48, .inl (E.2 0, 4, .inl (fun _ => 0)))] H := hP
  have hD : va_D A [(h1, .inr (12, mO q)), (q 47, .inl (E.2 0, 4, .inl gc)), (q 48, .inl (E.2 0, 4, .inl (fun _ => 0)))] := hD
  refine lv_aload_n hx hb dL_law_903 rfl (lv_at hl 1 rfl) ?_
  refine lv_aload_n hx hb dL_law_904 rfl (lv_at hl 3 rfl) ?_
  refine lv_iload_n hx hb dL_law_905 rfl (lv_at hl 0 rfl) ?_
  refine lv_iconst (v := 1) hx hb dL_law_906 (by decide) ?_
  refine lv_iadd hx hb dL_law_907 ?_
  refine lv_topi (fun x9 ex9 => ?_)
  obtain rfl : x9 = 1 := ex9.trans (by decide +kernel)
  refine va_sld hx hb hX hbl hbA hS (show vp_in 1 6 from by unfold vp_in; decide) dL_law_908 ?_
  refine lv_topi (fun x10 ex10 => ?_)
  obtain rfl : x10 = xs 1 := ex10
  refine lv_aload_n hx hb dL_law_909 rfl (lv_at hl 3 rfl) ?_
  refine lv_iload_n hx hb dL_law_910 rfl (lv_at hl 0 rfl) ?_
  refine lv_iconst (v := 2) hx hb dL_law_911 (by decide) ?_
  refine lv_iadd hx hb dL_law_912 ?_
  refine lv_topi (fun x11 ex11 => ?_)
  obtain rfl : x11 = 2 := ex11.trans (by decide +kernel)
  refine va_sld hx hb hX hbl hbA hS (show vp_in 2 6 from by unfold vp_in; decide) dL_law_913 ?_
  refine lv_topi (fun x12 ex12 => ?_)
  obtain rfl : x12 = xs 2 := ex12
  refine lv_aload_n hx hb dL_law_914 rfl (lv_at hl 3 rfl) ?_
  refine lv_iload_n hx hb dL_law_915 rfl (lv_at hl 0 rfl) ?_
  refine lv_iconst (v := 3) hx hb dL_law_916 (by decide) ?_
  refine lv_iadd hx hb dL_law_917 ?_
  refine lv_topi (fun x13 ex13 => ?_)
  obtain rfl : x13 = 3 := ex13.trans (by decide +kernel)
  refine va_sld hx hb hX hbl hbA hS (show vp_in 3 6 from by unfold vp_in; decide) dL_law_918 ?_
  refine lv_topi (fun x14 ex14 => ?_)
  obtain rfl : x14 = xs 3 := ex14
  have hPc := hP.sub (ws' := [(h1, .inr (12, mO q)), (q 47, .inl (E.2 0, 4, .inl gc)), (q 48, .inl (E.2 0, 4, .inl (fun _ => 0)))]) [0, 1, 2] rfl
  have hDc := hD.sub (ws' := [(h1, .inr (12, mO q)), (q 47, .inl (E.2 0, 4, .inl gc)), (q 48, .inl (E.2 0, 4, .inl (fun _ => 0)))]) [0, 1, 2] (by decide) rfl
  have hFc := va_free (wc := [(h1, .inr (12, mO q)), (q 47, .inl (E.2 0, 4, .inl gc)), (q 48, .inl (E.2 0, 4, .inl (fun _ => 0)))]) hD hS hA [0, 1, 2] rfl
  refine va_calli (va_runV (As := [.int (xs 1), .int (xs 2), .int (xs 3)]) (rest := [.int r7]) ⟨hx, hb, hml, hown, hts⟩ (c_X12_crew l E h1 q gc (xs 1) (xs 2) (xs 3) H.size ) (cwV 3 hts gL_law_X12_crew rfl rfl rfl (by decide +kernel) ⟨Nat.le_of_ble_eq_true rfl, Nat.le_of_ble_eq_true rfl⟩) ⟨pcW_blind, va_recv hK hPc (ci := 12) (q0 := 0) rfl rfl, (pcW_pre hPc hkn hDc hst hS hFc)⟩ rfl rfl hl.1 rfl (lv_room (Nat.le_of_ble_eq_true rfl)) dL_law_919 ⟨Nat.le_of_ble_eq_true rfl, Nat.le_of_ble_eq_true rfl⟩) hS (fun q _ h => hFc q h) hFc (fun r15 u t H1 locs ht hvm hw16 hB hz1 hk1 hS => ?_)
  obtain ⟨hP1, hD1⟩ := hB
  rw [ht] at hP1
  try dsimp only at hw16
  obtain ⟨hP, hD⟩ := va_join (wr := []) (w1 := []) hP hD [0, 1, 2] [] rfl rfl (by decide) (by decide) hk1 hFc hP1 hD1
  generalize H1 = H at hP hS ⊢
  have hP : va_P E.1 vwCl [] H := hP
  have hD : va_D A [] := hD
  refine lv_icmp_eq (tgt := 1029) hx hb dL_law_922 (by decide) (fun c9 => ?_) (fun c9 => absurd c9 (fun h => h (hw8.trans hw16.symm)))
  exact law_end l C0 hA hbA hAs _ _ hS _ _ _ (lv_sub hl [0, 1, 2, 3] rfl)
set_option maxHeartbeats 4000000 in
set_option maxRecDepth 100000 in
theorem op_flight {p : Program} {e : Env} {s : State} {m : MethodId} {below : List Frame} {meth : Method} {c : Code} (l : Launch) {b : Nat} {xs : Nat → Int32} (C0 : lw_At p s m meth c b 6 xs) {A : Nat → Prop} (hA : ∀ q : Nat, s.heap.size ≤ q → A q) (hbA : ¬ A b) (hAs : ∀ q : Nat, A q → s.heap.size ≤ q) (E : vE) (hkn : kn E s) (hst : st A s s.heap) (x0 h1 : Nat) (tp : Nat) (rd : Nat) (se : Nat) (ba : Nat) (of : Nat) (pl : Nat) (sr : Nat) (sc : Nat) (g1 : Nat) (g2 : Nat) (g3 : Nat) (g4 : Nat) (g5 : Nat) (g6 : Nat) (g7 : Nat) (g8 : Nat) (k1 : Nat) (k2 : Nat) (k3 : Nat) (k4 : Nat) (ff : Nat → Int32) (q : Nat → Nat) (gf : Nat → Int32) (hff : ∀ k, k < 100 → ff k = if k % 11 = 0 then 0 else -1) (mhff : ∀ k, k < 100 → gf k = if k % 11 = 0 then 0 else -1) (H : Heap) (locs : List Loc) (hP : va_P E.1 vwCl [(x0, .inr (11, [.ref tp, .ref rd, .ref se, .ref ba, .ref of, .ref pl, .ref sr, .ref sc, .int 0])), (pl, .inr (5, [.ref of, .ref k1, .ref k2, .ref k3, .ref k4, .int 0, .int 0, .int 0])), (of, .inr (2, [.ref g1, .ref g2, .ref g3, .ref g4, .ref g5, .int 0, .ref g6, .ref g7, .ref g8])), (g8, .inl (E.2 0, 100, .inl ff)), (h1, .inr (12, mO q)), (q 49, .inl (E.2 0, 100, .inl gf))] H) (hD : va_D A [(x0, .inr (11, [.ref tp, .ref rd, .ref se, .ref ba, .ref of, .ref pl, .ref sr, .ref sc, .int 0])), (pl, .inr (5, [.ref of, .ref k1, .ref k2, .ref k3, .ref k4, .int 0, .int 0, .int 0])), (of, .inr (2, [.ref g1, .ref g2, .ref g3, .ref g4, .ref g5, .int 0, .ref g6, .ref g7, .ref g8])), (g8, .inl (E.2 0, 100, .inl ff)), (h1, .inr (12, mO q)), (q 49, .inl (E.2 0, 100, .inl gf))]) (hS : va_S A s.heap H locs) (ls : Array Slot) (hl : lv_has ls 4 [(3, .int 0), (2, .ref h1), (1, .ref x0), (0, .ref b)]) : W p l e room_1 s m #[Value.ref b] below meth c H locs 600000 7302249 (lw_Z below #[Value.ref b] s) (F0 m 927 ls []) := by
  obtain ⟨hx, hb, hr, hml, hown0, hts0, hX, hbl, hlocks, hgv⟩ := id C0
  have hown : s.vm.findClass RL = some m.cls := hown0
  have hts : ∀ w ∈ wsL_law, w.before #[Value.ref b] s = true := fun w h => hts0 w (wsL_law_in w h)
  have hK := hkn.1
  refine lv_aload_n hx hb dL_law_927 rfl (lv_at hl 2 rfl) ?_
  refine lv_aload_n hx hb dL_law_928 rfl (lv_at hl 3 rfl) ?_
  refine lv_iload_n hx hb dL_law_929 rfl (lv_at hl 0 rfl) ?_
  refine lv_iconst (v := 1) hx hb dL_law_930 (by decide) ?_
  refine lv_iadd hx hb dL_law_931 ?_
  refine lv_topi (fun x1 ex1 => ?_)
  obtain rfl : x1 = 1 := ex1.trans (by decide +kernel)
  refine va_sld hx hb hX hbl hbA hS (show vp_in 1 6 from by unfold vp_in; decide) dL_law_932 ?_
  refine lv_topi (fun x2 ex2 => ?_)
  obtain rfl : x2 = xs 1 := ex2
  refine lv_aload_n hx hb dL_law_933 rfl (lv_at hl 3 rfl) ?_
  refine lv_iload_n hx hb dL_law_934 rfl (lv_at hl 0 rfl) ?_
  refine lv_iconst (v := 2) hx hb dL_law_935 (by decide) ?_
  refine lv_iadd hx hb dL_law_936 ?_
  refine lv_topi (fun x3 ex3 => ?_)
  obtain rfl : x3 = 2 := ex3.trans (by decide +kernel)
  refine va_sld hx hb hX hbl hbA hS (show vp_in 2 6 from by unfold vp_in; decide) dL_law_937 ?_
  refine lv_topi (fun x4 ex4 => ?_)
  obtain rfl : x4 = xs 2 := ex4
  refine lv_aload_n hx hb dL_law_938 rfl (lv_at hl 3 rfl) ?_
  refine lv_iload_n hx hb dL_law_939 rfl (lv_at hl 0 rfl) ?_
  refine lv_iconst (v := 3) hx hb dL_law_940 (by decide) ?_
  refine lv_iadd hx hb dL_law_941 ?_
  refine lv_topi (fun x5 ex5 => ?_)
  obtain rfl : x5 = 3 := ex5.trans (by decide +kernel)
  refine va_sld hx hb hX hbl hbA hS (show vp_in 3 6 from by unfold vp_in; decide) dL_law_942 ?_
  refine lv_topi (fun x6 ex6 => ?_)
  obtain rfl : x6 = xs 3 := ex6
  have hPc := hP.sub (ws' := [(x0, .inr (11, [.ref tp, .ref rd, .ref se, .ref ba, .ref of, .ref pl, .ref sr, .ref sc, .int 0])), (pl, .inr (5, [.ref of, .ref k1, .ref k2, .ref k3, .ref k4, .int 0, .int 0, .int 0])), (of, .inr (2, [.ref g1, .ref g2, .ref g3, .ref g4, .ref g5, .int 0, .ref g6, .ref g7, .ref g8])), (g8, .inl (E.2 0, 100, .inl ff))]) [0, 1, 2, 3] rfl
  have hDc := hD.sub (ws' := [(x0, .inr (11, [.ref tp, .ref rd, .ref se, .ref ba, .ref of, .ref pl, .ref sr, .ref sc, .int 0])), (pl, .inr (5, [.ref of, .ref k1, .ref k2, .ref k3, .ref k4, .int 0, .int 0, .int 0])), (of, .inr (2, [.ref g1, .ref g2, .ref g3, .ref g4, .ref g5, .int 0, .ref g6, .ref g7, .ref g8])), (g8, .inl (E.2 0, 100, .inl ff))]) [0, 1, 2, 3] (by decide) rfl
  have hFc := va_free (wc := [(x0, .inr (11, [.ref tp, .ref rd, .ref se, .ref ba, .ref of, .ref pl, .ref sr, .ref sc, .int 0])), (pl, .inr (5, [.ref of, .ref k1, .ref k2, .ref k3, .ref k4, .int 0, .int 0, .int 0])), (of, .inr (2, [.ref g1, .ref g2, .ref g3, .ref g4, .ref g5, .int 0, .ref g6, .ref g7, .ref g8])), (g8, .inl (E.2 0, 100, .inl ff))]) hD hS hA [0, 1, 2, 3] rfl
  refine va_calli (va_runV (As := [.int (xs 1), .int (xs 2), .int (xs 3)]) (rest := []) ⟨hx, hb, hml, hown, hts⟩ (c_X11_flight l E x0 tp rd se ba of pl sr sc g1 g2 g3 g4 g5 g6 g7 g8 k1 k2 k3 k4 (xs 1) (xs 2) (xs 3) ff H.size hff) (cwV 3 hts gL_law_X11_flight rfl rfl rfl (by decide +kernel) ⟨Nat.le_of_ble_eq_true rfl, Nat.le_of_ble_eq_true rfl⟩) ⟨pcW_blind, va_recv hK hPc (ci := 11) (q0 := 0) rfl rfl, (pcW_pre hPc hkn hDc hst hS hFc)⟩ rfl rfl hl.1 rfl (lv_room (Nat.le_of_ble_eq_true rfl)) dL_law_943 ⟨Nat.le_of_ble_eq_true rfl, Nat.le_of_ble_eq_true rfl⟩) hS (fun q _ h => hFc q h) hFc (fun r7 u t H1 locs ht hvm hw8 hB hz1 hk1 hS => ?_)
  obtain ⟨hP1, hD1⟩ := hB
  rw [ht] at hP1
  try dsimp only at hw8
  obtain ⟨hP, hD⟩ := va_join (wr := [(h1, .inr (12, mO q)), (q 49, .inl (E.2 0, 100, .inl gf))]) (w1 := []) hP hD [0, 1, 2, 3] [4, 5] rfl rfl (by decide) (by decide) hk1 hFc hP1 hD1
  generalize H1 = H at hP hS ⊢
  have hP : va_P E.1 vwCl [(h1, .inr (12, mO q)), (q 49, .inl (E.2 0, 100, .inl gf))] H := hP
  have hD : va_D A [(h1, .inr (12, mO q)), (q 49, .inl (E.2 0, 100, .inl gf))] := hD
  refine lv_aload_n hx hb dL_law_946 rfl (lv_at hl 1 rfl) ?_
  refine lv_aload_n hx hb dL_law_947 rfl (lv_at hl 3 rfl) ?_
  refine lv_iload_n hx hb dL_law_948 rfl (lv_at hl 0 rfl) ?_
  refine lv_iconst (v := 1) hx hb dL_law_949 (by decide) ?_
  refine lv_iadd hx hb dL_law_950 ?_
  refine lv_topi (fun x9 ex9 => ?_)
  obtain rfl : x9 = 1 := ex9.trans (by decide +kernel)
  refine va_sld hx hb hX hbl hbA hS (show vp_in 1 6 from by unfold vp_in; decide) dL_law_951 ?_
  refine lv_topi (fun x10 ex10 => ?_)
  obtain rfl : x10 = xs 1 := ex10
  refine lv_aload_n hx hb dL_law_952 rfl (lv_at hl 3 rfl) ?_
  refine lv_iload_n hx hb dL_law_953 rfl (lv_at hl 0 rfl) ?_
  refine lv_iconst (v := 2) hx hb dL_law_954 (by decide) ?_
  refine lv_iadd hx hb dL_law_955 ?_
  refine lv_topi (fun x11 ex11 => ?_)
  obtain rfl : x11 = 2 := ex11.trans (by decide +kernel)
  refine va_sld hx hb hX hbl hbA hS (show vp_in 2 6 from by unfold vp_in; decide) dL_law_956 ?_
  refine lv_topi (fun x12 ex12 => ?_)
  obtain rfl : x12 = xs 2 := ex12
  refine lv_aload_n hx hb dL_law_957 rfl (lv_at hl 3 rfl) ?_
  refine lv_iload_n hx hb dL_law_958 rfl (lv_at hl 0 rfl) ?_
  refine lv_iconst (v := 3) hx hb dL_law_959 (by decide) ?_
  refine lv_iadd hx hb dL_law_960 ?_
  refine lv_topi (fun x13 ex13 => ?_)
  obtain rfl : x13 = 3 := ex13.trans (by decide +kernel)
  refine va_sld hx hb hX hbl hbA hS (show vp_in 3 6 from by unfold vp_in; decide) dL_law_961 ?_
  refine lv_topi (fun x14 ex14 => ?_)
  obtain rfl : x14 = xs 3 := ex14
  have hPc := hP.sub (ws' := [(h1, .inr (12, mO q)), (q 49, .inl (E.2 0, 100, .inl gf))]) [0, 1] rfl
  have hDc := hD.sub (ws' := [(h1, .inr (12, mO q)), (q 49, .inl (E.2 0, 100, .inl gf))]) [0, 1] (by decide) rfl
  have hFc := va_free (wc := [(h1, .inr (12, mO q)), (q 49, .inl (E.2 0, 100, .inl gf))]) hD hS hA [0, 1] rfl
  refine va_calli (va_runV (As := [.int (xs 1), .int (xs 2), .int (xs 3)]) (rest := [.int r7]) ⟨hx, hb, hml, hown, hts⟩ (c_X12_flight l E h1 q gf (xs 1) (xs 2) (xs 3) H.size mhff) (cwV 3 hts gL_law_X12_flight rfl rfl rfl (by decide +kernel) ⟨Nat.le_of_ble_eq_true rfl, Nat.le_of_ble_eq_true rfl⟩) ⟨pcW_blind, va_recv hK hPc (ci := 12) (q0 := 0) rfl rfl, (pcW_pre hPc hkn hDc hst hS hFc)⟩ rfl rfl hl.1 rfl (lv_room (Nat.le_of_ble_eq_true rfl)) dL_law_962 ⟨Nat.le_of_ble_eq_true rfl, Nat.le_of_ble_eq_true rfl⟩) hS (fun q _ h => hFc q h) hFc (fun r15 u t H1 locs ht hvm hw16 hB hz1 hk1 hS => ?_)
  obtain ⟨hP1, hD1⟩ := hB
  rw [ht] at hP1
  try dsimp only at hw16
  obtain ⟨hP, hD⟩ := va_join (wr := []) (w1 := []) hP hD [0, 1] [] rfl rfl (by decide) (by decide) hk1 hFc hP1 hD1
  generalize H1 = H at hP hS ⊢
  have hP : va_P E.1 vwCl [] H := hP
  have hD : va_D A [] := hD
  refine lv_icmp_eq (tgt := 1029) hx hb dL_law_965 (by decide) (fun c9 => ?_) (fun c9 => absurd c9 (fun h => h (hw8.trans hw16.symm)))
  exact law_end l C0 hA hbA hAs _ _ hS _ _ _ (lv_sub hl [0, 1, 2, 3] rfl)
set_option maxHeartbeats 4000000 in
set_option maxRecDepth 100000 in
theorem op_plan {p : Program} {e : Env} {s : State} {m : MethodId} {below : List Frame} {meth : Method} {c : Code} (l : Launch) {b : Nat} {xs : Nat → Int32} (C0 : lw_At p s m meth c b 6 xs) {A : Nat → Prop} (hA : ∀ q : Nat, s.heap.size ≤ q → A q) (hbA : ¬ A b) (hAs : ∀ q : Nat, A q → s.heap.size ≤ q) (E : vE) (hkn : kn E s) (hst : st A s s.heap) (x0 h1 : Nat) (tp : Nat) (rd : Nat) (se : Nat) (ba : Nat) (of : Nat) (pl : Nat) (sr : Nat) (sc : Nat) (g1 : Nat) (g2 : Nat) (g3 : Nat) (g4 : Nat) (g5 : Nat) (g6 : Nat) (g7 : Nat) (g8 : Nat) (k1 : Nat) (k2 : Nat) (k3 : Nat) (k4 : Nat) (fc : Nat → Int32) (q : Nat → Nat) (gc : Nat → Int32) (hfc : ∀ k, k < 4 → fc k = -1) (mhfc : ∀ k, k < 4 → gc k = -1) (H : Heap) (locs : List Loc) (hP : va_P E.1 vwCl [(x0, .inr (11, [.ref tp, .ref rd, .ref se, .ref ba, .ref of, .ref pl, .ref sr, .ref sc, .int 0])), (pl, .inr (5, [.ref of, .ref k1, .ref k2, .ref k3, .ref k4, .int 0, .int 0, .int 0])), (of, .inr (2, [.ref g1, .ref g2, .ref g3, .ref g4, .ref g5, .int 0, .ref g6, .ref g7, .ref g8])), (g6, .inl (E.2 0, 4, .inl fc)), (k2, .inl (E.2 2, 128, .inr (.inl (fun _ => 0)))), (k3, .inl (E.2 0, 7, .inl (fun _ => 0))), (k4, .inl (E.2 0, 7, .inl (fun _ => 0))), (h1, .inr (12, mO q)), (q 51, .inl (E.2 0, 512, .inl (fun _ => 0))), (q 52, .inl (E.2 0, 512, .inl (fun _ => 0))), (q 55, .inl (E.2 0, 4, .inl (fun _ => 0))), (q 47, .inl (E.2 0, 4, .inl gc)), (q 48, .inl (E.2 0, 4, .inl (fun _ => 0)))] H) (hD : va_D A [(x0, .inr (11, [.ref tp, .ref rd, .ref se, .ref ba, .ref of, .ref pl, .ref sr, .ref sc, .int 0])), (pl, .inr (5, [.ref of, .ref k1, .ref k2, .ref k3, .ref k4, .int 0, .int 0, .int 0])), (of, .inr (2, [.ref g1, .ref g2, .ref g3, .ref g4, .ref g5, .int 0, .ref g6, .ref g7, .ref g8])), (g6, .inl (E.2 0, 4, .inl fc)), (k2, .inl (E.2 2, 128, .inr (.inl (fun _ => 0)))), (k3, .inl (E.2 0, 7, .inl (fun _ => 0))), (k4, .inl (E.2 0, 7, .inl (fun _ => 0))), (h1, .inr (12, mO q)), (q 51, .inl (E.2 0, 512, .inl (fun _ => 0))), (q 52, .inl (E.2 0, 512, .inl (fun _ => 0))), (q 55, .inl (E.2 0, 4, .inl (fun _ => 0))), (q 47, .inl (E.2 0, 4, .inl gc)), (q 48, .inl (E.2 0, 4, .inl (fun _ => 0)))]) (hS : va_S A s.heap H locs) (ls : Array Slot) (hl : lv_has ls 4 [(3, .int 0), (2, .ref h1), (1, .ref x0), (0, .ref b)]) : W p l e room_1 s m #[Value.ref b] below meth c H locs 600000 7302249 (lw_Z below #[Value.ref b] s) (F0 m 970 ls []) := by
  obtain ⟨hx, hb, hr, hml, hown0, hts0, hX, hbl, hlocks, hgv⟩ := id C0
  have hown : s.vm.findClass RL = some m.cls := hown0
  have hts : ∀ w ∈ wsL_law, w.before #[Value.ref b] s = true := fun w h => hts0 w (wsL_law_in w h)
  have hK := hkn.1
  refine lv_aload_n hx hb dL_law_970 rfl (lv_at hl 2 rfl) ?_
  have hPc := hP.sub (ws' := [(x0, .inr (11, [.ref tp, .ref rd, .ref se, .ref ba, .ref of, .ref pl, .ref sr, .ref sc, .int 0])), (pl, .inr (5, [.ref of, .ref k1, .ref k2, .ref k3, .ref k4, .int 0, .int 0, .int 0])), (of, .inr (2, [.ref g1, .ref g2, .ref g3, .ref g4, .ref g5, .int 0, .ref g6, .ref g7, .ref g8])), (g6, .inl (E.2 0, 4, .inl fc)), (k2, .inl (E.2 2, 128, .inr (.inl (fun _ => 0)))), (k3, .inl (E.2 0, 7, .inl (fun _ => 0))), (k4, .inl (E.2 0, 7, .inl (fun _ => 0)))]) [0, 1, 2, 3, 4, 5, 6] rfl
  have hDc := hD.sub (ws' := [(x0, .inr (11, [.ref tp, .ref rd, .ref se, .ref ba, .ref of, .ref pl, .ref sr, .ref sc, .int 0])), (pl, .inr (5, [.ref of, .ref k1, .ref k2, .ref k3, .ref k4, .int 0, .int 0, .int 0])), (of, .inr (2, [.ref g1, .ref g2, .ref g3, .ref g4, .ref g5, .int 0, .ref g6, .ref g7, .ref g8])), (g6, .inl (E.2 0, 4, .inl fc)), (k2, .inl (E.2 2, 128, .inr (.inl (fun _ => 0)))), (k3, .inl (E.2 0, 7, .inl (fun _ => 0))), (k4, .inl (E.2 0, 7, .inl (fun _ => 0)))]) [0, 1, 2, 3, 4, 5, 6] (by decide) rfl
  have hFc := va_free (wc := [(x0, .inr (11, [.ref tp, .ref rd, .ref se, .ref ba, .ref of, .ref pl, .ref sr, .ref sc, .int 0])), (pl, .inr (5, [.ref of, .ref k1, .ref k2, .ref k3, .ref k4, .int 0, .int 0, .int 0])), (of, .inr (2, [.ref g1, .ref g2, .ref g3, .ref g4, .ref g5, .int 0, .ref g6, .ref g7, .ref g8])), (g6, .inl (E.2 0, 4, .inl fc)), (k2, .inl (E.2 2, 128, .inr (.inl (fun _ => 0)))), (k3, .inl (E.2 0, 7, .inl (fun _ => 0))), (k4, .inl (E.2 0, 7, .inl (fun _ => 0)))]) hD hS hA [0, 1, 2, 3, 4, 5, 6] rfl
  refine va_calli (va_runV (As := []) (rest := []) ⟨hx, hb, hml, hown, hts⟩ (c_X11_plan l E x0 tp rd se ba of pl sr sc g1 g2 g3 g4 g5 g6 g7 g8 k1 k2 k3 k4 fc H.size hfc) (cwV 0 hts gL_law_X11_plan rfl rfl rfl (by decide +kernel) ⟨Nat.le_of_ble_eq_true rfl, Nat.le_of_ble_eq_true rfl⟩) ⟨pcW_blind, va_recv hK hPc (ci := 11) (q0 := 0) rfl rfl, (pcW_pre hPc hkn hDc hst hS hFc)⟩ rfl rfl hl.1 rfl (lv_room (Nat.le_of_ble_eq_true rfl)) dL_law_971 ⟨Nat.le_of_ble_eq_true rfl, Nat.le_of_ble_eq_true rfl⟩) hS (fun q _ h => hFc q h) hFc (fun r1 u t H1 locs ht hvm hw2 hB hz1 hk1 hS => ?_)
  obtain ⟨hP1, hD1⟩ := hB
  rw [ht] at hP1
  try dsimp only at hw2
  obtain ⟨hP, hD⟩ := va_join (wr := [(h1, .inr (12, mO q)), (q 51, .inl (E.2 0, 512, .inl (fun _ => 0))), (q 52, .inl (E.2 0, 512, .inl (fun _ => 0))), (q 55, .inl (E.2 0, 4, .inl (fun _ => 0))), (q 47, .inl (E.2 0, 4, .inl gc)), (q 48, .inl (E.2 0, 4, .inl (fun _ => 0)))]) (w1 := []) hP hD [0, 1, 2, 3, 4, 5, 6] [7, 8, 9, 10, 11, 12] rfl rfl (by decide) (by decide) hk1 hFc hP1 hD1
  generalize H1 = H at hP hS ⊢
  have hP : va_P E.1 vwCl [(h1, .inr (12, mO q)), (q 51, .inl (E.2 0, 512, .inl (fun _ => 0))), (q 52, .inl (E.2 0, 512, .inl (fun _ => 0))), (q 55, .inl (E.2 0, 4, .inl (fun _ => 0))), (q 47, .inl (E.2 0, 4, .inl gc)), (q 48, .inl (E.2 0, 4, .inl (fun _ => 0)))] H := hP
  have hD : va_D A [(h1, .inr (12, mO q)), (q 51, .inl (E.2 0, 512, .inl (fun _ => 0))), (q 52, .inl (E.2 0, 512, .inl (fun _ => 0))), (q 55, .inl (E.2 0, 4, .inl (fun _ => 0))), (q 47, .inl (E.2 0, 4, .inl gc)), (q 48, .inl (E.2 0, 4, .inl (fun _ => 0)))] := hD
  refine lv_aload_n hx hb dL_law_974 rfl (lv_at hl 1 rfl) ?_
  have hPc := hP.sub (ws' := [(h1, .inr (12, mO q)), (q 51, .inl (E.2 0, 512, .inl (fun _ => 0))), (q 52, .inl (E.2 0, 512, .inl (fun _ => 0))), (q 55, .inl (E.2 0, 4, .inl (fun _ => 0))), (q 47, .inl (E.2 0, 4, .inl gc)), (q 48, .inl (E.2 0, 4, .inl (fun _ => 0)))]) [0, 1, 2, 3, 4, 5] rfl
  have hDc := hD.sub (ws' := [(h1, .inr (12, mO q)), (q 51, .inl (E.2 0, 512, .inl (fun _ => 0))), (q 52, .inl (E.2 0, 512, .inl (fun _ => 0))), (q 55, .inl (E.2 0, 4, .inl (fun _ => 0))), (q 47, .inl (E.2 0, 4, .inl gc)), (q 48, .inl (E.2 0, 4, .inl (fun _ => 0)))]) [0, 1, 2, 3, 4, 5] (by decide) rfl
  have hFc := va_free (wc := [(h1, .inr (12, mO q)), (q 51, .inl (E.2 0, 512, .inl (fun _ => 0))), (q 52, .inl (E.2 0, 512, .inl (fun _ => 0))), (q 55, .inl (E.2 0, 4, .inl (fun _ => 0))), (q 47, .inl (E.2 0, 4, .inl gc)), (q 48, .inl (E.2 0, 4, .inl (fun _ => 0)))]) hD hS hA [0, 1, 2, 3, 4, 5] rfl
  refine va_calli (va_runV (As := []) (rest := [.int r1]) ⟨hx, hb, hml, hown, hts⟩ (c_X12_plan l E h1 q gc H.size mhfc) (cwV 0 hts gL_law_X12_plan rfl rfl rfl (by decide +kernel) ⟨Nat.le_of_ble_eq_true rfl, Nat.le_of_ble_eq_true rfl⟩) ⟨pcW_blind, va_recv hK hPc (ci := 12) (q0 := 0) rfl rfl, (pcW_pre hPc hkn hDc hst hS hFc)⟩ rfl rfl hl.1 rfl (lv_room (Nat.le_of_ble_eq_true rfl)) dL_law_975 ⟨Nat.le_of_ble_eq_true rfl, Nat.le_of_ble_eq_true rfl⟩) hS (fun q _ h => hFc q h) hFc (fun r3 u t H1 locs ht hvm hw4 hB hz1 hk1 hS => ?_)
  obtain ⟨hP1, hD1⟩ := hB
  rw [ht] at hP1
  try dsimp only at hw4
  obtain ⟨hP, hD⟩ := va_join (wr := []) (w1 := []) hP hD [0, 1, 2, 3, 4, 5] [] rfl rfl (by decide) (by decide) hk1 hFc hP1 hD1
  generalize H1 = H at hP hS ⊢
  have hP : va_P E.1 vwCl [] H := hP
  have hD : va_D A [] := hD
  refine lv_icmp_eq (tgt := 1029) hx hb dL_law_978 (by decide) (fun c9 => ?_) (fun c9 => absurd c9 (fun h => h (hw2.trans hw4.symm)))
  exact law_end l C0 hA hbA hAs _ _ hS _ _ _ (lv_sub hl [0, 1, 2, 3] rfl)
set_option maxHeartbeats 4000000 in
set_option maxRecDepth 100000 in
theorem op_planned {p : Program} {e : Env} {s : State} {m : MethodId} {below : List Frame} {meth : Method} {c : Code} (l : Launch) {b : Nat} {xs : Nat → Int32} (C0 : lw_At p s m meth c b 6 xs) {A : Nat → Prop} (hA : ∀ q : Nat, s.heap.size ≤ q → A q) (hbA : ¬ A b) (hAs : ∀ q : Nat, A q → s.heap.size ≤ q) (E : vE) (hkn : kn E s) (hst : st A s s.heap) (x0 h1 : Nat) (tp : Nat) (rd : Nat) (se : Nat) (ba : Nat) (of : Nat) (pl : Nat) (sr : Nat) (sc : Nat) (k1 : Nat) (k2 : Nat) (k3 : Nat) (k4 : Nat) (q : Nat → Nat) (H : Heap) (locs : List Loc) (hP : va_P E.1 vwCl [(x0, .inr (11, [.ref tp, .ref rd, .ref se, .ref ba, .ref of, .ref pl, .ref sr, .ref sc, .int 0])), (pl, .inr (5, [.ref of, .ref k1, .ref k2, .ref k3, .ref k4, .int 0, .int 0, .int 0])), (h1, .inr (12, mO q))] H) (hD : va_D A [(x0, .inr (11, [.ref tp, .ref rd, .ref se, .ref ba, .ref of, .ref pl, .ref sr, .ref sc, .int 0])), (pl, .inr (5, [.ref of, .ref k1, .ref k2, .ref k3, .ref k4, .int 0, .int 0, .int 0])), (h1, .inr (12, mO q))]) (hS : va_S A s.heap H locs) (ls : Array Slot) (hl : lv_has ls 4 [(3, .int 0), (2, .ref h1), (1, .ref x0), (0, .ref b)]) : W p l e room_1 s m #[Value.ref b] below meth c H locs 600000 7302249 (lw_Z below #[Value.ref b] s) (F0 m 983 ls []) := by
  obtain ⟨hx, hb, hr, hml, hown0, hts0, hX, hbl, hlocks, hgv⟩ := id C0
  have hown : s.vm.findClass RL = some m.cls := hown0
  have hts : ∀ w ∈ wsL_law, w.before #[Value.ref b] s = true := fun w h => hts0 w (wsL_law_in w h)
  have hK := hkn.1
  refine lv_aload_n hx hb dL_law_983 rfl (lv_at hl 2 rfl) ?_
  refine lv_aload_n hx hb dL_law_984 rfl (lv_at hl 3 rfl) ?_
  refine lv_iload_n hx hb dL_law_985 rfl (lv_at hl 0 rfl) ?_
  refine lv_iconst (v := 1) hx hb dL_law_986 (by decide) ?_
  refine lv_iadd hx hb dL_law_987 ?_
  refine lv_topi (fun x1 ex1 => ?_)
  obtain rfl : x1 = 1 := ex1.trans (by decide +kernel)
  refine va_sld hx hb hX hbl hbA hS (show vp_in 1 6 from by unfold vp_in; decide) dL_law_988 ?_
  refine lv_topi (fun x2 ex2 => ?_)
  obtain rfl : x2 = xs 1 := ex2
  have hPc := hP.sub (ws' := [(x0, .inr (11, [.ref tp, .ref rd, .ref se, .ref ba, .ref of, .ref pl, .ref sr, .ref sc, .int 0])), (pl, .inr (5, [.ref of, .ref k1, .ref k2, .ref k3, .ref k4, .int 0, .int 0, .int 0]))]) [0, 1] rfl
  have hDc := hD.sub (ws' := [(x0, .inr (11, [.ref tp, .ref rd, .ref se, .ref ba, .ref of, .ref pl, .ref sr, .ref sc, .int 0])), (pl, .inr (5, [.ref of, .ref k1, .ref k2, .ref k3, .ref k4, .int 0, .int 0, .int 0]))]) [0, 1] (by decide) rfl
  have hFc := va_free (wc := [(x0, .inr (11, [.ref tp, .ref rd, .ref se, .ref ba, .ref of, .ref pl, .ref sr, .ref sc, .int 0])), (pl, .inr (5, [.ref of, .ref k1, .ref k2, .ref k3, .ref k4, .int 0, .int 0, .int 0]))]) hD hS hA [0, 1] rfl
  refine va_calli (va_runV (As := [.int (xs 1)]) (rest := []) ⟨hx, hb, hml, hown, hts⟩ (c_X11_planned l E x0 tp rd se ba of pl sr sc k1 k2 k3 k4 (xs 1) H.size ) (cwV 1 hts gL_law_X11_planned rfl rfl rfl (by decide +kernel) ⟨Nat.le_of_ble_eq_true rfl, Nat.le_of_ble_eq_true rfl⟩) ⟨pcW_blind, va_recv hK hPc (ci := 11) (q0 := 0) rfl rfl, (pcW_pre hPc hkn hDc hst hS hFc)⟩ rfl rfl hl.1 rfl (lv_room (Nat.le_of_ble_eq_true rfl)) dL_law_989 ⟨Nat.le_of_ble_eq_true rfl, Nat.le_of_ble_eq_true rfl⟩) hS (fun q _ h => hFc q h) hFc (fun r3 u t H1 locs ht hvm hw4 hB hz1 hk1 hS => ?_)
  obtain ⟨hP1, hD1⟩ := hB
  rw [ht] at hP1
  try dsimp only at hw4
  obtain ⟨hP, hD⟩ := va_join (wr := [(h1, .inr (12, mO q))]) (w1 := []) hP hD [0, 1] [2] rfl rfl (by decide) (by decide) hk1 hFc hP1 hD1
  generalize H1 = H at hP hS ⊢
  have hP : va_P E.1 vwCl [(h1, .inr (12, mO q))] H := hP
  have hD : va_D A [(h1, .inr (12, mO q))] := hD
  refine lv_aload_n hx hb dL_law_992 rfl (lv_at hl 1 rfl) ?_
  refine lv_aload_n hx hb dL_law_993 rfl (lv_at hl 3 rfl) ?_
  refine lv_iload_n hx hb dL_law_994 rfl (lv_at hl 0 rfl) ?_
  refine lv_iconst (v := 1) hx hb dL_law_995 (by decide) ?_
  refine lv_iadd hx hb dL_law_996 ?_
  refine lv_topi (fun x5 ex5 => ?_)
  obtain rfl : x5 = 1 := ex5.trans (by decide +kernel)
  refine va_sld hx hb hX hbl hbA hS (show vp_in 1 6 from by unfold vp_in; decide) dL_law_997 ?_
  refine lv_topi (fun x6 ex6 => ?_)
  obtain rfl : x6 = xs 1 := ex6
  have hPc := hP.sub (ws' := [(h1, .inr (12, mO q))]) [0] rfl
  have hDc := hD.sub (ws' := [(h1, .inr (12, mO q))]) [0] (by decide) rfl
  have hFc := va_free (wc := [(h1, .inr (12, mO q))]) hD hS hA [0] rfl
  refine va_calli (va_runV (As := [.int (xs 1)]) (rest := [.int r3]) ⟨hx, hb, hml, hown, hts⟩ (c_X12_planned l E h1 q (xs 1) H.size ) (cwV 1 hts gL_law_X12_planned rfl rfl rfl (by decide +kernel) ⟨Nat.le_of_ble_eq_true rfl, Nat.le_of_ble_eq_true rfl⟩) ⟨pcW_blind, va_recv hK hPc (ci := 12) (q0 := 0) rfl rfl, (pcW_pre hPc hkn hDc hst hS hFc)⟩ rfl rfl hl.1 rfl (lv_room (Nat.le_of_ble_eq_true rfl)) dL_law_998 ⟨Nat.le_of_ble_eq_true rfl, Nat.le_of_ble_eq_true rfl⟩) hS (fun q _ h => hFc q h) hFc (fun r7 u t H1 locs ht hvm hw8 hB hz1 hk1 hS => ?_)
  obtain ⟨hP1, hD1⟩ := hB
  rw [ht] at hP1
  try dsimp only at hw8
  obtain ⟨hP, hD⟩ := va_join (wr := []) (w1 := []) hP hD [0] [] rfl rfl (by decide) (by decide) hk1 hFc hP1 hD1
  generalize H1 = H at hP hS ⊢
  have hP : va_P E.1 vwCl [] H := hP
  have hD : va_D A [] := hD
  refine lv_icmp_eq (tgt := 1029) hx hb dL_law_1001 (by decide) (fun c9 => ?_) (fun c9 => absurd c9 (fun h => h (hw4.trans hw8.symm)))
  exact law_end l C0 hA hbA hAs _ _ hS _ _ _ (lv_sub hl [0, 1, 2, 3] rfl)
set_option maxHeartbeats 4000000 in
set_option maxRecDepth 100000 in
theorem op_count {p : Program} {e : Env} {s : State} {m : MethodId} {below : List Frame} {meth : Method} {c : Code} (l : Launch) {b : Nat} {xs : Nat → Int32} (C0 : lw_At p s m meth c b 6 xs) {A : Nat → Prop} (hA : ∀ q : Nat, s.heap.size ≤ q → A q) (hbA : ¬ A b) (hAs : ∀ q : Nat, A q → s.heap.size ≤ q) (E : vE) (hkn : kn E s) (hst : st A s s.heap) (x0 h1 : Nat) (tp : Nat) (rd : Nat) (se : Nat) (ba : Nat) (of : Nat) (pl : Nat) (sr : Nat) (sc : Nat) (bo : Nat) (sp : Nat) (pa : Nat) (ru : Nat) (co : Nat) (tr : Nat) (fb : Nat → Option Nat) (g1 : Nat) (g2 : Nat) (g3 : Nat) (g4 : Nat) (g5 : Nat) (g6 : Nat) (g7 : Nat) (g8 : Nat) (u1 : Nat) (u2 : Nat) (u3 : Nat) (u4 : Nat) (bx : Nat) (wi : Nat) (po : Nat) (by_ : Nat) (fc : Nat → Int32) (q : Nat → Nat) (gc : Nat → Int32) (hfb10 : inR (xs 1) 10 15 = true → fb ((xs 1) - 10).toNatClampNeg = some bo) (hfb20 : inR (xs 1) 20 25 = true → fb ((xs 1) - 20).toNatClampNeg = some bo) (hfc : ∀ k, k < 4 → fc k = -1) (mhfc : ∀ k, k < 4 → gc k = -1) (H : Heap) (locs : List Loc) (hP : va_P E.1 vwCl [(x0, .inr (11, [.ref tp, .ref rd, .ref se, .ref ba, .ref of, .ref pl, .ref sr, .ref sc, .int 0])), (ba, .inl (E.2 4, 6, .inr (.inr (.inr (.inr fb))))), (bo, .inr (0, [.ref sp, .ref pa, .int 0, .ref ru, .ref co, .ref tr])), (ru, .inr (7, [.ref u1, .ref u2, .ref u3, .ref u4, .int 0])), (co, .inr (1, [.ref bx, .int 0, .int 0, .int 9, .int 0])), (se, .inr (8, [.ref wi, .ref po])), (po, .inl (E.2 0, 10, .inl (fun _ => 0))), (of, .inr (2, [.ref g1, .ref g2, .ref g3, .ref g4, .ref g5, .int 0, .ref g6, .ref g7, .ref g8])), (g6, .inl (E.2 0, 4, .inl fc)), (tp, .inr (9, [.ref by_, .int 0])), (h1, .inr (12, mO q)), (q 47, .inl (E.2 0, 4, .inl gc)), (q 11, .inl (E.2 0, 7, .inl (fun _ => 0))), (q 13, .inl (E.2 0, 7, .inl (fun _ => 0))), (q 19, .inl (E.2 0, 10, .inl (fun _ => 0)))] H) (hD : va_D A [(x0, .inr (11, [.ref tp, .ref rd, .ref se, .ref ba, .ref of, .ref pl, .ref sr, .ref sc, .int 0])), (ba, .inl (E.2 4, 6, .inr (.inr (.inr (.inr fb))))), (bo, .inr (0, [.ref sp, .ref pa, .int 0, .ref ru, .ref co, .ref tr])), (ru, .inr (7, [.ref u1, .ref u2, .ref u3, .ref u4, .int 0])), (co, .inr (1, [.ref bx, .int 0, .int 0, .int 9, .int 0])), (se, .inr (8, [.ref wi, .ref po])), (po, .inl (E.2 0, 10, .inl (fun _ => 0))), (of, .inr (2, [.ref g1, .ref g2, .ref g3, .ref g4, .ref g5, .int 0, .ref g6, .ref g7, .ref g8])), (g6, .inl (E.2 0, 4, .inl fc)), (tp, .inr (9, [.ref by_, .int 0])), (h1, .inr (12, mO q)), (q 47, .inl (E.2 0, 4, .inl gc)), (q 11, .inl (E.2 0, 7, .inl (fun _ => 0))), (q 13, .inl (E.2 0, 7, .inl (fun _ => 0))), (q 19, .inl (E.2 0, 10, .inl (fun _ => 0)))]) (hS : va_S A s.heap H locs) (ls : Array Slot) (hl : lv_has ls 4 [(3, .int 0), (2, .ref h1), (1, .ref x0), (0, .ref b)]) : W p l e room_1 s m #[Value.ref b] below meth c H locs 600000 7302249 (lw_Z below #[Value.ref b] s) (F0 m 1006 ls []) := by
  obtain ⟨hx, hb, hr, hml, hown0, hts0, hX, hbl, hlocks, hgv⟩ := id C0
  have hown : s.vm.findClass RL = some m.cls := hown0
  have hts : ∀ w ∈ wsL_law, w.before #[Value.ref b] s = true := fun w h => hts0 w (wsL_law_in w h)
  have hK := hkn.1
  refine lv_aload_n hx hb dL_law_1006 rfl (lv_at hl 2 rfl) ?_
  refine lv_aload_n hx hb dL_law_1007 rfl (lv_at hl 3 rfl) ?_
  refine lv_iload_n hx hb dL_law_1008 rfl (lv_at hl 0 rfl) ?_
  refine lv_iconst (v := 1) hx hb dL_law_1009 (by decide) ?_
  refine lv_iadd hx hb dL_law_1010 ?_
  refine lv_topi (fun x1 ex1 => ?_)
  obtain rfl : x1 = 1 := ex1.trans (by decide +kernel)
  refine va_sld hx hb hX hbl hbA hS (show vp_in 1 6 from by unfold vp_in; decide) dL_law_1011 ?_
  refine lv_topi (fun x2 ex2 => ?_)
  obtain rfl : x2 = xs 1 := ex2
  have hPc := hP.sub (ws' := [(x0, .inr (11, [.ref tp, .ref rd, .ref se, .ref ba, .ref of, .ref pl, .ref sr, .ref sc, .int 0])), (ba, .inl (E.2 4, 6, .inr (.inr (.inr (.inr fb))))), (bo, .inr (0, [.ref sp, .ref pa, .int 0, .ref ru, .ref co, .ref tr])), (ru, .inr (7, [.ref u1, .ref u2, .ref u3, .ref u4, .int 0])), (co, .inr (1, [.ref bx, .int 0, .int 0, .int 9, .int 0])), (se, .inr (8, [.ref wi, .ref po])), (po, .inl (E.2 0, 10, .inl (fun _ => 0))), (of, .inr (2, [.ref g1, .ref g2, .ref g3, .ref g4, .ref g5, .int 0, .ref g6, .ref g7, .ref g8])), (g6, .inl (E.2 0, 4, .inl fc)), (tp, .inr (9, [.ref by_, .int 0]))]) [0, 1, 2, 3, 4, 5, 6, 7, 8, 9] rfl
  have hDc := hD.sub (ws' := [(x0, .inr (11, [.ref tp, .ref rd, .ref se, .ref ba, .ref of, .ref pl, .ref sr, .ref sc, .int 0])), (ba, .inl (E.2 4, 6, .inr (.inr (.inr (.inr fb))))), (bo, .inr (0, [.ref sp, .ref pa, .int 0, .ref ru, .ref co, .ref tr])), (ru, .inr (7, [.ref u1, .ref u2, .ref u3, .ref u4, .int 0])), (co, .inr (1, [.ref bx, .int 0, .int 0, .int 9, .int 0])), (se, .inr (8, [.ref wi, .ref po])), (po, .inl (E.2 0, 10, .inl (fun _ => 0))), (of, .inr (2, [.ref g1, .ref g2, .ref g3, .ref g4, .ref g5, .int 0, .ref g6, .ref g7, .ref g8])), (g6, .inl (E.2 0, 4, .inl fc)), (tp, .inr (9, [.ref by_, .int 0]))]) [0, 1, 2, 3, 4, 5, 6, 7, 8, 9] (by decide) rfl
  have hFc := va_free (wc := [(x0, .inr (11, [.ref tp, .ref rd, .ref se, .ref ba, .ref of, .ref pl, .ref sr, .ref sc, .int 0])), (ba, .inl (E.2 4, 6, .inr (.inr (.inr (.inr fb))))), (bo, .inr (0, [.ref sp, .ref pa, .int 0, .ref ru, .ref co, .ref tr])), (ru, .inr (7, [.ref u1, .ref u2, .ref u3, .ref u4, .int 0])), (co, .inr (1, [.ref bx, .int 0, .int 0, .int 9, .int 0])), (se, .inr (8, [.ref wi, .ref po])), (po, .inl (E.2 0, 10, .inl (fun _ => 0))), (of, .inr (2, [.ref g1, .ref g2, .ref g3, .ref g4, .ref g5, .int 0, .ref g6, .ref g7, .ref g8])), (g6, .inl (E.2 0, 4, .inl fc)), (tp, .inr (9, [.ref by_, .int 0]))]) hD hS hA [0, 1, 2, 3, 4, 5, 6, 7, 8, 9] rfl
  refine va_calli (va_runV (As := [.int (xs 1)]) (rest := []) ⟨hx, hb, hml, hown, hts⟩ (c_X11_count l E x0 tp rd se ba of pl sr sc bo sp pa ru co tr fb g1 g2 g3 g4 g5 g6 g7 g8 u1 u2 u3 u4 bx wi po by_ fc (xs 1) H.size hfb10 hfb20 hfc) (cwV 1 hts gL_law_X11_count rfl rfl rfl (by decide +kernel) ⟨Nat.le_of_ble_eq_true rfl, Nat.le_of_ble_eq_true rfl⟩) ⟨pcW_blind, va_recv hK hPc (ci := 11) (q0 := 0) rfl rfl, (pcW_pre hPc hkn hDc hst hS hFc)⟩ rfl rfl hl.1 rfl (lv_room (Nat.le_of_ble_eq_true rfl)) dL_law_1012 ⟨Nat.le_of_ble_eq_true rfl, Nat.le_of_ble_eq_true rfl⟩) hS (fun q _ h => hFc q h) hFc (fun r3 u t H1 locs ht hvm hw4 hB hz1 hk1 hS => ?_)
  obtain ⟨hP1, hD1⟩ := hB
  rw [ht] at hP1
  try dsimp only at hw4
  obtain ⟨hP, hD⟩ := va_join (wr := [(h1, .inr (12, mO q)), (q 47, .inl (E.2 0, 4, .inl gc)), (q 11, .inl (E.2 0, 7, .inl (fun _ => 0))), (q 13, .inl (E.2 0, 7, .inl (fun _ => 0))), (q 19, .inl (E.2 0, 10, .inl (fun _ => 0)))]) (w1 := []) hP hD [0, 1, 2, 3, 4, 5, 6, 7, 8, 9] [10, 11, 12, 13, 14] rfl rfl (by decide) (by decide) hk1 hFc hP1 hD1
  generalize H1 = H at hP hS ⊢
  have hP : va_P E.1 vwCl [(h1, .inr (12, mO q)), (q 47, .inl (E.2 0, 4, .inl gc)), (q 11, .inl (E.2 0, 7, .inl (fun _ => 0))), (q 13, .inl (E.2 0, 7, .inl (fun _ => 0))), (q 19, .inl (E.2 0, 10, .inl (fun _ => 0)))] H := hP
  have hD : va_D A [(h1, .inr (12, mO q)), (q 47, .inl (E.2 0, 4, .inl gc)), (q 11, .inl (E.2 0, 7, .inl (fun _ => 0))), (q 13, .inl (E.2 0, 7, .inl (fun _ => 0))), (q 19, .inl (E.2 0, 10, .inl (fun _ => 0)))] := hD
  refine lv_aload_n hx hb dL_law_1015 rfl (lv_at hl 1 rfl) ?_
  refine lv_aload_n hx hb dL_law_1016 rfl (lv_at hl 3 rfl) ?_
  refine lv_iload_n hx hb dL_law_1017 rfl (lv_at hl 0 rfl) ?_
  refine lv_iconst (v := 1) hx hb dL_law_1018 (by decide) ?_
  refine lv_iadd hx hb dL_law_1019 ?_
  refine lv_topi (fun x5 ex5 => ?_)
  obtain rfl : x5 = 1 := ex5.trans (by decide +kernel)
  refine va_sld hx hb hX hbl hbA hS (show vp_in 1 6 from by unfold vp_in; decide) dL_law_1020 ?_
  refine lv_topi (fun x6 ex6 => ?_)
  obtain rfl : x6 = xs 1 := ex6
  have hPc := hP.sub (ws' := [(h1, .inr (12, mO q)), (q 47, .inl (E.2 0, 4, .inl gc)), (q 11, .inl (E.2 0, 7, .inl (fun _ => 0))), (q 13, .inl (E.2 0, 7, .inl (fun _ => 0))), (q 19, .inl (E.2 0, 10, .inl (fun _ => 0)))]) [0, 1, 2, 3, 4] rfl
  have hDc := hD.sub (ws' := [(h1, .inr (12, mO q)), (q 47, .inl (E.2 0, 4, .inl gc)), (q 11, .inl (E.2 0, 7, .inl (fun _ => 0))), (q 13, .inl (E.2 0, 7, .inl (fun _ => 0))), (q 19, .inl (E.2 0, 10, .inl (fun _ => 0)))]) [0, 1, 2, 3, 4] (by decide) rfl
  have hFc := va_free (wc := [(h1, .inr (12, mO q)), (q 47, .inl (E.2 0, 4, .inl gc)), (q 11, .inl (E.2 0, 7, .inl (fun _ => 0))), (q 13, .inl (E.2 0, 7, .inl (fun _ => 0))), (q 19, .inl (E.2 0, 10, .inl (fun _ => 0)))]) hD hS hA [0, 1, 2, 3, 4] rfl
  refine va_calli (va_runV (As := [.int (xs 1)]) (rest := [.int r3]) ⟨hx, hb, hml, hown, hts⟩ (c_X12_count l E h1 q gc (xs 1) H.size mhfc) (cwV 1 hts gL_law_X12_count rfl rfl rfl (by decide +kernel) ⟨Nat.le_of_ble_eq_true rfl, Nat.le_of_ble_eq_true rfl⟩) ⟨pcW_blind, va_recv hK hPc (ci := 12) (q0 := 0) rfl rfl, (pcW_pre hPc hkn hDc hst hS hFc)⟩ rfl rfl hl.1 rfl (lv_room (Nat.le_of_ble_eq_true rfl)) dL_law_1021 ⟨Nat.le_of_ble_eq_true rfl, Nat.le_of_ble_eq_true rfl⟩) hS (fun q _ h => hFc q h) hFc (fun r7 u t H1 locs ht hvm hw8 hB hz1 hk1 hS => ?_)
  obtain ⟨hP1, hD1⟩ := hB
  rw [ht] at hP1
  try dsimp only at hw8
  obtain ⟨hP, hD⟩ := va_join (wr := []) (w1 := []) hP hD [0, 1, 2, 3, 4] [] rfl rfl (by decide) (by decide) hk1 hFc hP1 hD1
  generalize H1 = H at hP hS ⊢
  have hP : va_P E.1 vwCl [] H := hP
  have hD : va_D A [] := hD
  refine lv_icmp_eq (tgt := 1029) hx hb dL_law_1024 (by decide) (fun c9 => ?_) (fun c9 => absurd c9 (fun h => h (hw4.trans hw8.symm)))
  exact law_end l C0 hA hbA hAs _ _ hS _ _ _ (lv_sub hl [0, 1, 2, 3] rfl)
