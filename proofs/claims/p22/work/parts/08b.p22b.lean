def pc7 (s : Nat) : Nat := s % 2 + s / 2 % 2 + s / 4 % 2 + s / 8 % 2 + s / 16 % 2 + s / 32 % 2 + s / 64 % 2
theorem pc7_full : ∀ s : Nat, s < 128 → pc7 s = 7 → s = 127 := by decide +kernel
theorem pc7_or : ∀ s : Nat, s < 128 → ∀ k : Nat, k < 7 → Nat.testBit s k = false → pc7 (s ||| (1 <<< k)) = pc7 s + 1 := by decide +kernel
theorem b127 : ∀ k : Nat, k < 7 → Nat.testBit 127 k = true := by decide +kernel
theorem or_pos : ∀ s : Nat, s < 128 → ∀ k : Nat, k < 7 → 0 < s ||| (1 <<< k) := by decide +kernel
theorem or_e : ∀ s : Nat, s < 128 → ∀ k : Nat, k < 7 → (s ||| (1 <<< k)) < 128 ∧ nI s ||| ((1 : Int32) <<< (nI k &&& 31)) = nI (s ||| (1 <<< k)) := by decide +kernel
theorem bit_e : ∀ s : Nat, s < 128 → ∀ k : Nat, k < 7 → ((nI s >>> (nI k &&& 31)) &&& 1 = 0 ↔ Nat.testBit s k = false) := by decide +kernel
abbrev VT : Type := Nat → Nat → Int32 → Prop
def Vp (V : VT) (S k : Nat) (f : Int32) : VT := fun S' k' f' => V S' k' f' ∨ (S' = S ∧ k' = k ∧ f' = f)
/-- what the search's rows say of the nodes that were come to -/
def QV (D : DT) (n : Nat) (pr dr : Int32) (cr : Nat) (V : VT) (c1 c3 : Nat → Int32) : Prop :=
  (∀ S k f, V S k f → S < 128 ∧ 0 < S ∧ k < 7 ∧ 0 ≤ f.toInt ∧ f.toInt ≤ 1199 ∧ (¬ c1 (cr * 128 + S) = -1) ∧ Fe D n pr dr S (D.2.1 k) f) ∧
  (∀ S : Nat, 0 < S → S < 128 → (¬ c1 (cr * 128 + S) = -1) → ∃ k f, V S k f) ∧
  (∀ S k : Nat, S < 128 → k < 7 → c3 (S * 7 + k) = 1073741824 ∨ V S k (c3 (S * 7 + k)))
theorem QV_new {D : DT} {n : Nat} {pr dr : Int32} {cr : Nat} {c1 c3 : Nat → Int32} (h1 : ∀ S : Nat, S < 128 → c1 (cr * 128 + S) = -1) (h3 : ∀ j : Nat, j < 896 → c3 j = 1073741824) : QV D n pr dr cr (fun _ _ _ => False) c1 c3 := by
  refine ⟨fun S k f h => False.elim h, fun S h0 h h2 => absurd (h1 S h) h2, fun S k hS hk => Or.inl (h3 _ (by omega))⟩
theorem QV_step {D : DT} {n : Nat} {pr dr : Int32} {cr : Nat} {V : VT} {c1 c3 c1' c3' : Nat → Int32} (hQ : QV D n pr dr cr V c1 c3) {S k : Nat} {f pd : Int32} (hS : S < 128) (h0 : 0 < S) (hk : k < 7) (hf0 : 0 ≤ f.toInt) (hf1 : f.toInt ≤ 1199) (hF : Fe D n pr dr S (D.2.1 k) f)
    (h3 : c3' = c3 ∨ c3' = upd c3 (S * 7 + k) f) (h1 : (c1' = c1 ∨ c1' = upd c1 (cr * 128 + S) pd) ∧ ¬ c1' (cr * 128 + S) = -1) : QV D n pr dr cr (Vp V S k f) c1' c3' := by
  obtain ⟨q1, q2, q3⟩ := hQ
  obtain ⟨e1, n1⟩ := h1
  have same : ∀ T : Nat, T ≠ S → c1' (cr * 128 + T) = c1 (cr * 128 + T) := by
    intro T hT
    rcases e1 with rfl | rfl
    · rfl
    · exact pk_un (by omega)
  refine ⟨?_, ?_, ?_⟩
  · intro T j g hV
    rcases hV with hV | ⟨rfl, rfl, rfl⟩
    · obtain ⟨a1, a2, a3, a4, a5, a6, a7⟩ := q1 T j g hV
      refine ⟨a1, a2, a3, a4, a5, ?_, a7⟩
      by_cases hT : T = S
      · rw [hT]; exact n1
      · rw [same T hT]; exact a6
    · exact ⟨hS, h0, hk, hf0, hf1, n1, hF⟩
  · intro T hT0 hT hc
    by_cases e : T = S
    · exact ⟨k, f, Or.inr ⟨e, rfl, rfl⟩⟩
    · rw [same T e] at hc
      obtain ⟨j, g, hV⟩ := q2 T hT0 hT hc
      exact ⟨j, g, Or.inl hV⟩
  · intro T j hT hj
    rcases h3 with rfl | rfl
    · exact (q3 T j hT hj).imp id Or.inl
    · by_cases e : T * 7 + j = S * 7 + k
      · rw [e, pk_us]
        exact Or.inr (Or.inr ⟨by omega, by omega, rfl⟩)
      · rw [pk_un e]
        exact (q3 T j hT hj).imp id Or.inl
/-- what extend leaves behind -/
def ExP (D : DT) (n : Nat) (pr dr : Int32) (cr : Nat) (V : VT) (c1 c3 : Nat → Int32) (S : Nat) (pt da : Int32) : Prop :=
  ∃ V2 : VT, (∀ T k f, V T k f → V2 T k f) ∧ QV D n pr dr cr V2 c1 c3 ∧ (∀ T k f, V2 T k f → V T k f ∨ Clo D n V2 T (D.2.1 k) f) ∧ Clo D n V2 S pt da
theorem ExP_full {D : DT} {n : Nat} {pr dr : Int32} {cr : Nat} {V : VT} {c1 c3 : Nat → Int32} {S : Nat} {pt da : Int32} (hn : n ≤ 7) (hS : S < 128) (h7 : pc7 S = 7) (hQ : QV D n pr dr cr V c1 c3) : ExP D n pr dr cr V c1 c3 S pt da := by
  refine ⟨V, fun _ _ _ h => h, hQ, fun _ _ _ h => Or.inl h, fun k hk hb => ?_⟩
  rw [pc7_full S hS h7, b127 k (by omega)] at hb
  cases hb
/-- extend's loop: deliveries below k are done with -/
def LpI (D : DT) (n : Nat) (pr dr : Int32) (cr : Nat) (V0 V : VT) (c1 c3 : Nat → Int32) (S : Nat) (pt da : Int32) (k : Nat) : Prop :=
  (∀ T j f, V0 T j f → V T j f) ∧ QV D n pr dr cr V c1 c3 ∧ (∀ T j f, V T j f → V0 T j f ∨ Clo D n V T (D.2.1 j) f) ∧
  (∀ j : Nat, j < k → j < n → Nat.testBit S j = false → (¬ stD D j pt da = -1) → ∃ f : Int32, V (S ||| (1 <<< j)) j f ∧ f.toInt ≤ (stD D j pt da + D.2.2.1 j).toInt)
section
variable {D : DT} {n : Nat} {pr dr : Int32} {cr : Nat} {V0 V : VT} {c1 c3 : Nat → Int32} {S : Nat} {pt da : Int32} {k : Nat}
theorem LpI_0 (hQ : QV D n pr dr cr V c1 c3) : LpI D n pr dr cr V V c1 c3 S pt da 0 := ⟨fun _ _ _ h => h, hQ, fun _ _ _ h => Or.inl h, fun j hj => absurd hj (Nat.not_lt_zero _)⟩
theorem LpI_end (h : LpI D n pr dr cr V0 V c1 c3 S pt da k) (hk : n ≤ k) : ExP D n pr dr cr V0 c1 c3 S pt da := ⟨V, h.1, h.2.1, h.2.2.1, fun j hj => h.2.2.2 j (by omega) hj⟩
theorem LpI_next (h : LpI D n pr dr cr V0 V c1 c3 S pt da k) (hk : k < n → Nat.testBit S k = false → (¬ stD D k pt da = -1) → ∃ f : Int32, V (S ||| (1 <<< k)) k f ∧ f.toInt ≤ (stD D k pt da + D.2.2.1 k).toInt) : LpI D n pr dr cr V0 V c1 c3 S pt da (k + 1) := by
  refine ⟨h.1, h.2.1, h.2.2.1, fun j hj hn hb hs => ?_⟩
  by_cases e : j = k
  · subst e; exact hk hn hb hs
  · exact h.2.2.2 j (by omega) hn hb hs
theorem LpI_bit (h : LpI D n pr dr cr V0 V c1 c3 S pt da k) (hb : Nat.testBit S k = true) : LpI D n pr dr cr V0 V c1 c3 S pt da (k + 1) := LpI_next h (fun _ q => by rw [hb] at q; cases q)
theorem LpI_no (h : LpI D n pr dr cr V0 V c1 c3 S pt da k) (hs : stD D k pt da = -1) : LpI D n pr dr cr V0 V c1 c3 S pt da (k + 1) := LpI_next h (fun _ _ q => absurd hs q)
theorem LpI_dom (h : LpI D n pr dr cr V0 V c1 c3 S pt da k) {w : Nat} (hw : w < 128) (ew : w = S ||| (1 <<< k)) (hk : k < 7) {fr : Int32} (hfr : fr = stD D k pt da + D.2.2.1 k) (hb : fr.toInt ≤ 1199) (hc : c3 (w * 7 + k) ≤ fr) : LpI D n pr dr cr V0 V c1 c3 S pt da (k + 1) := by
  refine LpI_next h (fun _ _ _ => ?_)
  rcases h.2.1.2.2 w k hw hk with q | q
  · rw [q, ii_le] at hc
    have e : (1073741824 : Int32).toInt = 1073741824 := by decide
    omega
  · rw [ew] at q
    refine ⟨_, q, ?_⟩
    rw [← ew, ← hfr]
    exact (ii_le _ _).mp hc
theorem LpI_vis (h : LpI D n pr dr cr V0 V c1 c3 S pt da k) {w : Nat} (ew : w = S ||| (1 <<< k)) {fr : Int32} (hfr : fr = stD D k pt da + D.2.2.1 k) {c1' c3' : Nat → Int32} (hX : ExP D n pr dr cr (Vp V w k fr) c1' c3' w (D.2.1 k) fr) : ∃ V' : VT, LpI D n pr dr cr V0 V' c1' c3' S pt da (k + 1) := by
  obtain ⟨V2, u1, u2, u3, u4⟩ := hX
  have up : ∀ T j f, V T j f → V2 T j f := fun T j f q => u1 T j f (Or.inl q)
  refine ⟨V2, fun T j f q => up T j f (h.1 T j f q), u2, fun T j f q => ?_, fun j hj hn hb hs => ?_⟩
  · rcases u3 T j f q with (q | ⟨rfl, rfl, rfl⟩) | q
    · rcases h.2.2.1 T j f q with q | q
      · exact Or.inl q
      · exact Or.inr (Clo_up up q)
    · exact Or.inr u4
    · exact Or.inr q
  · by_cases e : j = k
    · subst e
      refine ⟨fr, ?_, by rw [hfr]; exact Int.le_refl _⟩
      rw [← ew]
      exact u1 _ _ _ (Or.inr ⟨rfl, rfl, rfl⟩)
    · obtain ⟨f, a, b⟩ := h.2.2.2 j (by omega) hn hb hs
      exact ⟨f, up _ _ _ a, b⟩
end
/-- the sum of fares stays small -/
theorem paid_ok {d8 : Nat → Int32} (h8 : ∀ j : Nat, j < 100 → inR (d8 j) (-1) 10000 = true) {i : Nat} (hi : i < 100) (hne : ¬ d8 i = -1) {co_ r : Int32} {a b : Nat} (hr : r = d8 i) (hco : inR co_ 0 (nI (a * 10000)) = true) (hb : b = a + 1) (ha : a ≤ 8) : inR (co_ + r) 0 (nI (b * 10000)) = true := by
  have m1 : (-1 : Int32).toInt = -1 := by decide
  have f := inR_b (h8 i hi) (a := -1) (by decide) (b := 10000) (by decide)
  have g : (d8 i).toInt ≠ -1 := fun q => hne ((ii_eq _ _).mpr (by rw [q, m1]))
  have c := inR_b hco (a := 0) (by decide) (b := ((a * 10000 : Nat) : Int)) (nI_toInt (by omega))
  have e := addI (x := co_) (y := r) rfl rfl (by rw [hr]; omega) (by rw [hr]; omega)
  refine b_inR (a := 0) (by decide) (b := ((b * 10000 : Nat) : Int)) (nI_toInt (by omega)) ?_
  rw [e, hr, hb]
  omega
theorem not_m1 {x hi : Int32} (h : inR x 0 hi = true) : ¬ x = -1 := fun q => by
  rw [inR_t, q] at h
  exact absurd h.1 (by decide)
/-- what search finds: the sets that the crew can do -/
def SrP (D : DT) (n : Nat) (pr dr : Int32) (cr : Nat) (c1 : Nat → Int32) : Prop := ∀ S : Nat, 0 < S → S < 128 → ((¬ c1 (cr * 128 + S) = -1) ↔ ∃ pt da, Fe D n pr dr S pt da)
theorem SrP_of {D : DT} (h : okD D) {n : Nat} (hn : n ≤ 7) {pr dr : Int32} {cr : Nat} {c1 c3 : Nat → Int32} (hd0 : 0 ≤ dr.toInt) (hd1 : dr.toInt ≤ 999) (hX : ExP D n pr dr cr (fun _ _ _ => False) c1 c3 0 pr dr) : SrP D n pr dr cr c1 := by
  obtain ⟨V, -, q, u3, u4⟩ := hX
  have hc : ∀ S k f, V S k f → 0 ≤ f.toInt ∧ Clo D n V S (D.2.1 k) f := fun S k f hV => ⟨(q.1 S k f hV).2.2.2.1, (u3 S k f hV).resolve_left (fun e => e)⟩
  intro S h0 hS
  refine ⟨fun hc1 => ?_, fun hF => ?_⟩
  · obtain ⟨k, f, hV⟩ := q.2.1 S h0 hS hc1
    exact ⟨_, _, (q.1 S k f hV).2.2.2.2.2.2⟩
  · obtain ⟨pt, da, j, hj⟩ := hF
    cases j with
    | zero =>
      obtain ⟨e, -⟩ := hj
      omega
    | succ j =>
      obtain ⟨-, -, k, f, hV, -⟩ := fe_all h hn hd0 hd1 u4 hc j S pt da hj
      exact (q.1 S k f hV).2.2.2.2.2.1
theorem bit_t {s k : Nat} (hs : s < 128) (hk : k < 7) (h : ¬ (nI s >>> (nI k &&& 31)) &&& 1 = 0) : Nat.testBit s k = true := by
  cases e : Nat.testBit s k with
  | true => rfl
  | false => exact absurd ((bit_e s hs k hk).mpr e) h
theorem out_le {x fr : Int32} {c3 : Nat → Int32} {ax : Nat} (ha : ax < 2 ^ 31) (e : x = c3 (nI ax).toNatClampNeg) (c : ¬ fr < x) : c3 ax ≤ fr := by
  rw [nI_clamp ha] at e
  rw [← e]
  exact Int32.not_lt.mp c
theorem kp_ne {x : Int32} {c1 : Nat → Int32} {ax : Nat} (ha : ax < 2 ^ 31) (e : x = c1 (nI ax).toNatClampNeg) (c : ¬ x = -1) : ¬ c1 ax = -1 := by
  rw [nI_clamp ha] at e
  rw [← e]
  exact c
theorem thD_t {D : DT} {k : Nat} {pt da x : Int32} (c : pt = x) (e : x = D.1 k) : da = thD D k pt da := by
  unfold thD
  rw [if_pos (c.trans e)]
theorem thD_f {D : DT} {k : Nat} {pt da x t : Int32} (c : ¬ pt = x) (e : x = D.1 k) (ht : t = da + 1) : t = thD D k pt da := by
  unfold thD
  rw [if_neg (fun q => c (q.trans e.symm)), ht]
theorem stD_y {D : DT} {k : Nat} {pt da r t f m L : Int32} (hr : r = D.2.2.2.2.2 (pt * 10 + D.1 k).toNatClampNeg) (c : ¬ r = -1) (ht : t = thD D k pt da) (hf : f = D.2.2.2.1 k) (hm : m = if t < f then f else t) (hL : L = D.2.2.2.2.1 k) (hc : ¬ L < m) : m = stD D k pt da := by
  have e : m = mxI (thD D k pt da) (D.2.2.2.1 k) := by
    rw [hm, ht, hf]
    rfl
  rw [e]
  exact (stD_ok (fun q => c (hr.trans q)) (by rw [← e, ← hL]; exact Int32.not_lt.mp hc)).symm
theorem stD_n {D : DT} {k : Nat} {pt da r t f m L : Int32} (hr : r = D.2.2.2.2.2 (pt * 10 + D.1 k).toNatClampNeg) (c : ¬ r = -1) (ht : t = thD D k pt da) (hf : f = D.2.2.2.1 k) (hm : m = if t < f then f else t) (hL : L = D.2.2.2.2.1 k) (hc : L < m) : (-1) = stD D k pt da := by
  have e : m = mxI (thD D k pt da) (D.2.2.2.1 k) := by
    rw [hm, ht, hf]
    rfl
  exact (stD_late (by rw [← e, ← hL]; exact Int32.not_le.mpr hc)).symm
