theorem kp_ge {x pd : Int32} {c1 : Nat → Int32} {ax : Nat} (ha : ax < 2 ^ 31) (e : x = c1 (nI ax).toNatClampNeg) (c : x ≤ pd) : ¬ pd < c1 ax := by
  rw [nI_clamp ha] at e
  rw [← e]
  exact Int32.not_lt.mpr c
theorem kp_eq {x : Int32} {c1 : Nat → Int32} {ax : Nat} (ha : ax < 2 ^ 31) (e : x = c1 (nI ax).toNatClampNeg) (c : x = -1) : c1 ax = -1 := by
  rw [nI_clamp ha] at e
  rw [← e]
  exact c
theorem kp_lt {x pd : Int32} {c1 : Nat → Int32} {ax : Nat} (ha : ax < 2 ^ 31) (e : x = c1 (nI ax).toNatClampNeg) (c : ¬ x ≤ pd) : pd < c1 ax := by
  rw [nI_clamp ha] at e
  rw [← e]
  exact Int32.not_le.mp c
theorem oct_e (rl : List Nat) (k : Nat) : nI (rowC rl) * 8 + nI k + 1 = nI (rowC (k :: rl)) := by
  rw [show (8 : Int32) = nI 8 from rfl, pk_mul, nI_add, nI_1]
  rfl
theorem SrL_fr {D : DT} {n : Nat} {pr dr : Int32} {cr : Nat} {c1 c1' c2 c12 c22 : Nat → Int32} (hJ : ∀ j : Nat, (j < cr * 128 ∨ cr * 128 + 128 ≤ j) → c1' j = c1 j) (h : SrL D n pr dr cr c12 c22 ∧ ∀ j : Nat, (j < cr * 128 ∨ cr * 128 + 128 ≤ j) → c12 j = c1' j ∧ c22 j = c2 j) : SrL D n pr dr cr c12 c22 ∧ ∀ j : Nat, (j < cr * 128 ∨ cr * 128 + 128 ≤ j) → c12 j = c1 j ∧ c22 j = c2 j :=
  ⟨h.1, fun j hj => ⟨(h.2 j hj).1.trans (hJ j hj), (h.2 j hj).2⟩⟩
theorem rd_next {f3 f4 g3 g4 : Nat → Int32} {w v : Int32} {k : Nat} (h : ∀ j : Nat, j < k → f3 j = rdW w j ∧ f4 j = -1) (e3 : g3 = upd f3 k v) (e4 : g4 = upd f4 k (-1)) (hv : v = rdW w k) : ∀ j : Nat, j < k + 1 → g3 j = rdW w j ∧ g4 j = -1 := by
  intro j hj
  rw [e3, e4]
  by_cases q : j = k
  · rw [q, pk_us, pk_us]; exact ⟨hv, rfl⟩
  · rw [pk_un q, pk_un q]; exact h j (by omega)
theorem rd_4 {w x1 x2 x3 : Int32} {k : Nat} (e1 : x1 = sWn k) (e2 : x2 = w / x1) (e3 : x3 = x2 - x2 / 5 * 5) (c : x3 = 4) : -1 = rdW w k := by
  unfold rdW rdI
  rw [e3, e2, e1] at c
  rw [if_pos c]
theorem rd_n {w x1 x2 x3 : Int32} {k : Nat} (e1 : x1 = sWn k) (e2 : x2 = w / x1) (e3 : x3 = x2 - x2 / 5 * 5) (c : ¬ x3 = 4) : x3 = rdW w k := by
  unfold rdW rdI
  rw [e3, e2, e1] at c
  rw [if_neg c, e3, e2, e1]
theorem sd_yes {g : Nat → Nat} {cr k sv : Nat} (hsv : sv = setOf g cr k) (hk : k < 7) (h7 : sv < 128) (e : g k = cr) : nI sv ||| ((1 : Int32) <<< (nI k &&& 31)) = nI (setOf g cr (k + 1)) := by
  rw [show setOf g cr (k + 1) = setOf g cr k ||| (1 <<< k) from if_pos e, ← hsv]
  exact (or_e sv h7 k hk).2
theorem sd_no {g : Nat → Nat} {cr k sv : Nat} (hsv : sv = setOf g cr k) (e : ¬ g k = cr) : nI sv ||| 0 = nI (setOf g cr (k + 1)) := by
  rw [show setOf g cr (k + 1) = setOf g cr k from if_neg e, ← hsv]
  apply Int32.toBitVec_inj.mp
  simp
theorem lt_of_nge9 {a b : Nat} (ha : a < 2 ^ 31) (c : ¬ nI b ≤ nI a) : a < b := by
  rcases Nat.lt_or_ge a b with q | q
  · exact q
  · exact absurd (nI_le q ha) c
theorem plL_in {D : DT} (hok : okD D) {pr : Int32} (hpr : inR pr 0 9 = true) : ∀ l : List Nat, (∀ k ∈ l, k < 7) → inR (plL D pr l) 0 9 = true
  | [], _ => hpr
  | k :: l, h => (hok k (h k (List.mem_cons_self ..))).2.1
theorem plL_at {D : DT} (hok : okD D) {pr dr : Int32} (hpr : inR pr 0 9 = true) {f0 f4 : Nat → Int32} {l : List Nat} (h7 : ∀ k ∈ l, k < 7) {pv dv zz : Int32} {j : Nat} (h : SdI D pr dr f0 l pv dv zz f4 j) : inR pv 0 9 = true := by
  rw [h.2.2.1]
  exact plL_in hok hpr _ (fun k hk => h7 k (List.mem_of_mem_drop hk))
theorem KL_told {D : DT} {n : Nat} {d6 d7 : Nat → Int32} {i q : Nat} {co : Int} {l : List Nat} (h : KL D n d6 d7 i q co l) (h0 : 0 < q) : ¬ d6 i = -1 := by
  rcases h with ⟨e, -⟩ | ⟨-, a, -⟩
  · omega
  · exact a
theorem KL_nil {D : DT} {n : Nat} {d6 d7 : Nat → Int32} {i q : Nat} {co : Int} {l : List Nat} (h : KL D n d6 d7 i q co l) (h0 : q = 0) : l = [] := by
  rcases h with ⟨-, -, e⟩ | ⟨a, -⟩
  · exact e
  · omega
theorem cnd_e {u w v : Int64} {cost : Int32} {c1 : Nat → Int32} {cr sv pv : Nat} {fA : Nat → Int64} (hu : u = fA (sv ^^^ pv)) (hc : cost = c1 (cr * 128 + pv)) (hw : w = wtE (nI pv)) (hp : pv < 128) (hv : v.toInt = u.toInt + cost.toInt * 78125 + (cr : Int) * w.toInt) : v.toInt = cnd c1 cr fA sv pv := by
  unfold cnd
  rw [hv, hu, hc, hw, wtE_e pv hp, Int.natCast_mul]
theorem ch_eq {r dn : Int32} {s : Nat} (hb : r = nI (pc7 s)) (cd : ¬ r < dn) (cg : r ≤ dn) : dn = nI (pc7 s) := by
  rw [← hb]
  rw [ii_lt] at cd
  rw [ii_le] at cg
  exact (ii_eq _ _).mpr (by omega)
theorem SrL_none {D : DT} {n : Nat} {d6 d7 c1 c2 : Nat → Int32} {k : Nat} (h : ∀ c : Nat, c < k → (¬ d6 c = -1) → SrL D n (d6 c) (d7 c) c c1 c2) (hk : d6 k = -1) : ∀ c : Nat, c < k + 1 → (¬ d6 c = -1) → SrL D n (d6 c) (d7 c) c c1 c2 := by
  intro c hc hd
  by_cases q : c = k
  · rw [q] at hd; exact absurd hk hd
  · exact h c (by omega) hd
theorem SrL_more {D : DT} {n : Nat} {d6 d7 c1 c2 c1' c2' : Nat → Int32} {k : Nat} (h : ∀ c : Nat, c < k → (¬ d6 c = -1) → SrL D n (d6 c) (d7 c) c c1 c2) (hs : SrL D n (d6 k) (d7 k) k c1' c2') (hf : ∀ j : Nat, (j < k * 128 ∨ k * 128 + 128 ≤ j) → c1' j = c1 j ∧ c2' j = c2 j) : ∀ c : Nat, c < k + 1 → (¬ d6 c = -1) → SrL D n (d6 c) (d7 c) c c1' c2' := by
  intro c hc hd
  by_cases q : c = k
  · rw [q]; exact hs
  · intro S h0 hS
    obtain ⟨e1, e2⟩ := hf (c * 128 + S) (by omega)
    rw [e1, e2]
    exact h c (by omega) hd S h0 hS
theorem okL_4 {fj : Nat → Int64} (h : okL (((4 : Nat) : Int) * 200000000000000) fj) : okL 800000000000000 fj := fun S hS => bdL_up (h S hS) (by omega)
theorem day_next {D : DT} {d6 d7 f4 f42 : Nat → Int32} {ls : Nat → List Nat} {k : Nat} (hF : ∀ j : Nat, j < 7 → f4 j = dayF D d6 d7 ls k j) (h : f42 = Rn D (d6 k) (d7 k) f4 (ls k)) : ∀ j : Nat, j < 7 → f42 j = dayF D d6 d7 ls (k + 1) j := by
  intro j hj
  rw [h]
  exact Rn_cg hF (ls k) j hj
/-- what the class's choice says of the plan -/
theorem plan_cls {D : DT} {n : Nat} (hn : n ≤ 7) (hok : okD D) (h8 : ∀ j : Nat, j < 100 → inR (D.2.2.2.2.2 j) (-1) 10000 = true) {d6 d7 : Nat → Int32} (h6 : ∀ j : Nat, j < 4 → inR (d6 j) (-1) 9 = true) {fj : Nat → Int64} {dn fsu : Int32} {f3 f4 : Nat → Int32} (hLs : LsE (Fq D n d6 d7) (Cq D n d6 d7) 4 fj (2 ^ n - 1))
    (h : ∃ bw : Int64, ChX fj (2 ^ n - 1) (2 ^ n - 1 + 1) dn bw ∧ fsu = (bw / 78125).toInt32 ∧ ∀ j : Nat, j < 7 → f3 j = rdW (bw - bw / 78125 * 78125).toInt32 j ∧ f4 j = -1) :
    ∃ (gg : Nat → Nat) (ls : Nat → List Nat), OKg (Fq D n d6 d7) n gg ∧ (∀ g', OKg (Fq D n d6 d7) n g' → KeyLe (Cq D n d6 d7) n gg g') ∧ Rep (Cq D n d6 d7) n dn fsu f3 gg ∧ (∀ c : Nat, c < 4 → ∃ co, KL D n d6 d7 c (setOf gg c n) co (ls c)) ∧ ∀ j : Nat, j < 7 → f4 j = dayF D d6 d7 ls 0 j := by
  obtain ⟨bw, hC, hf, hr⟩ := h
  obtain ⟨g0, a, b, c, d⟩ := BG_cls hn (fun i => Fq_0) (fun i q k => Fq_lt hn k) hLs hC
  obtain ⟨ls, hls⟩ := ls_of a
  obtain ⟨v0, v1⟩ := vsm_bd (F := Fq D n d6 d7) (fun i hi q k => Fq_bd hn hok h8 (h6 i hi) k) a.2
  obtain ⟨e1, e2⟩ := best_e d v0 v1 (hN_b7 a.1) rfl rfl
  exact ⟨g0, ls, a, b, ⟨c, by rw [hf]; exact e1, crews_e a.1 hn e2 (fun j hj => (hr j hj).1)⟩, hls, fun j hj => (hr j hj).2⟩
/-- what planned answers -/
def plnd (md co : Int32) (f3 f4 : Nat → Int32) (n : Nat) (w r : Int32) : Prop := (md = 0 ∧ r = -9) ∨ ((¬ md = 0) ∧ w = 0 ∧ r = co) ∨ ((¬ md = 0) ∧ (¬ w = 0) ∧ inR w 10 (nI (9 + n)) = true ∧ r = f3 (w - 10).toNatClampNeg) ∨ ((¬ md = 0) ∧ (¬ w = 0) ∧ inR w 10 (nI (9 + n)) = false ∧ inR w 20 (nI (19 + n)) = true ∧ r = f4 (w - 20).toNatClampNeg) ∨ ((¬ md = 0) ∧ (¬ w = 0) ∧ inR w 10 (nI (9 + n)) = false ∧ inR w 20 (nI (19 + n)) = false ∧ r = -9)
theorem pln_hi {a on : Nat} {x : Int32} (e : x = nI (a + 1 + on) - 1) : x = nI (a + on) := by
  rw [e, show a + 1 + on = (a + on) + 1 by omega, nI_pred]
theorem pln_lt {w lo : Int32} {a n : Nat} (h : inR w lo (nI (a + n)) = true) (hlo : lo = nI (a + 1)) (hn : n ≤ 7) (ha : a ≤ 100) : (w - lo).toNatClampNeg < n := by
  obtain ⟨h0, h1⟩ := inR_t.mp h
  have a0 := (ii_le _ _).mp h0
  have a1 := (ii_le _ _).mp h1
  rw [hlo, nI_toInt (by omega)] at a0
  rw [nI_toInt (by omega)] at a1
  obtain ⟨j, hj⟩ : ∃ j : Nat, w.toInt = ((a + 1 + j : Nat) : Int) := ⟨(w.toInt - (a + 1 : Nat)).toNat, by omega⟩
  have e : w = nI (a + 1 + j) := (ii_eq _ _).mpr (by rw [nI_toInt (by omega)]; exact hj)
  rw [e, hlo, pk_sub (by omega), show a + 1 + j - (a + 1) = j by omega, nI_clamp (by omega)]
  omega
theorem plnd_eq {md md' co co' w r r' : Int32} {f3 f4 f3' f4' : Nat → Int32} {n : Nat} (hn : n ≤ 7) (hm : md = 0 ↔ md' = 0) (hq : (¬ md = 0) → co = co' ∧ ∀ k : Nat, k < n → f3 k = f3' k ∧ f4 k = f4' k) (h : plnd md co f3 f4 n w r) (h' : plnd md' co' f3' f4' n w r') : r = r' := by
  rcases h with ⟨a, e⟩ | ⟨a, b, e⟩ | ⟨a, b, c, e⟩ | ⟨a, b, c, d, e⟩ | ⟨a, b, c, d, e⟩ <;> rcases h' with ⟨a', e'⟩ | ⟨a', b', e'⟩ | ⟨a', b', c', e'⟩ | ⟨a', b', c', d', e'⟩ | ⟨a', b', c', d', e'⟩
  · rw [e, e']
  · exact absurd (hm.mp a) a'
  · exact absurd (hm.mp a) a'
  · exact absurd (hm.mp a) a'
  · exact absurd (hm.mp a) a'
  · exact absurd (hm.mpr a') a
  · rw [e, e', (hq a).1]
  · exact absurd b b'
  · exact absurd b b'
  · exact absurd b b'
  · exact absurd (hm.mpr a') a
  · exact absurd b' b
  · rw [e, e']
    exact ((hq a).2 _ (pln_lt c rfl hn (by decide))).1
  · rw [c] at c'; cases c'
  · rw [c] at c'; cases c'
  · exact absurd (hm.mpr a') a
  · exact absurd b' b
  · rw [c] at c'; cases c'
  · rw [e, e']
    exact ((hq a).2 _ (pln_lt d rfl hn (by decide))).2
  · rw [d] at d'; cases d'
  · exact absurd (hm.mpr a') a
  · exact absurd b' b
  · rw [c] at c'; cases c'
  · rw [d] at d'; cases d'
  · rw [e, e']
