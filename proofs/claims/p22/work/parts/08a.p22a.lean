theorem vinC {x : Int32} {n : Nat} (h : vp_in x n) : x.toNatClampNeg < n := Nat.not_le.mp (fun q => h (Or.inr q))
/-- deliveries' rows: from, to, days, first, last; the fares -/
abbrev DT : Type := (Nat → Int32) × (Nat → Int32) × (Nat → Int32) × (Nat → Int32) × (Nat → Int32) × (Nat → Int32)
def mxI (x y : Int32) : Int32 := if x < y then y else x
/-- the day on which someone at pt from da on is there -/
def thD (D : DT) (k : Nat) (pt da : Int32) : Int32 := if pt = D.1 k then da else da + 1
/-- the day on which delivery k begins then, or -1 -/
def stD (D : DT) (k : Nat) (pt da : Int32) : Int32 := if D.2.2.2.2.2 (pt * 10 + D.1 k).toNatClampNeg = -1 then -1 else if mxI (thD D k pt da) (D.2.2.2.1 k) ≤ D.2.2.2.2.1 k then mxI (thD D k pt da) (D.2.2.2.1 k) else -1
def okD (D : DT) : Prop := ∀ k : Nat, k < 7 → inR (D.1 k) 0 9 = true ∧ inR (D.2.1 k) 0 9 = true ∧ inR (D.2.2.1 k) 0 200 = true ∧ inR (D.2.2.2.1 k) 0 999 = true ∧ inR (D.2.2.2.2.1 k) 0 999 = true
theorem inR_b {x lo hi : Int32} {a b : Int} (h : inR x lo hi = true) (ha : lo.toInt = a) (hb : hi.toInt = b) : a ≤ x.toInt ∧ x.toInt ≤ b := by
  rw [inR_t, ii_le, ii_le, ha, hb] at h
  exact h
theorem b_inR {x lo hi : Int32} {a b : Int} (ha : lo.toInt = a) (hb : hi.toInt = b) (h : a ≤ x.toInt ∧ x.toInt ≤ b) : inR x lo hi = true := by
  rw [inR_t, ii_le, ii_le, ha, hb]
  exact h
theorem addI {x y : Int32} {a b : Int} (hx : x.toInt = a) (hy : y.toInt = b) (h0 : -2147483648 ≤ a + b) (h1 : a + b ≤ 2147483647) : (x + y).toInt = a + b := by
  rw [Int32.toInt_add, hx, hy, Int.bmod_eq_of_le] <;> omega
theorem mxI_r (x y : Int32) : y.toInt ≤ (mxI x y).toInt := by
  unfold mxI
  by_cases h : x < y
  · rw [if_pos h]; exact Int.le_refl _
  · rw [if_neg h]; exact (ii_le _ _).mp (Int32.not_lt.mp h)
theorem mxI_mono {x x' y : Int32} (h : x'.toInt ≤ x.toInt) : (mxI x' y).toInt ≤ (mxI x y).toInt := by
  unfold mxI
  by_cases h1 : x' < y
  · rw [if_pos h1]
    exact mxI_r x y
  · have h2 : ¬ x < y := fun q => h1 (by rw [ii_lt] at q ⊢; omega)
    rw [if_neg h1, if_neg h2]; exact h
theorem thD_mono {D : DT} {k : Nat} {pt da da' : Int32} (h0 : 0 ≤ da'.toInt) (h1 : da.toInt ≤ 2000) (h : da'.toInt ≤ da.toInt) : (thD D k pt da').toInt ≤ (thD D k pt da).toInt := by
  unfold thD
  by_cases c : pt = D.1 k
  · rw [if_pos c, if_pos c]; exact h
  · rw [if_neg c, if_neg c, addI (x := da') (y := 1) rfl (b := 1) (by decide) (by omega) (by omega), addI (x := da) (y := 1) rfl (b := 1) (by decide) (by omega) (by omega)]
    omega
theorem stD_no {D : DT} {k : Nat} {pt da : Int32} (c : D.2.2.2.2.2 (pt * 10 + D.1 k).toNatClampNeg = -1) : stD D k pt da = -1 := by
  unfold stD
  rw [if_pos c]
theorem stD_late {D : DT} {k : Nat} {pt da : Int32} (c : ¬ mxI (thD D k pt da) (D.2.2.2.1 k) ≤ D.2.2.2.2.1 k) : stD D k pt da = -1 := by
  unfold stD
  rw [if_neg c]
  by_cases h : D.2.2.2.2.2 (pt * 10 + D.1 k).toNatClampNeg = -1
  · rw [if_pos h]
  · rw [if_neg h]
theorem stD_ok {D : DT} {k : Nat} {pt da : Int32} (h : ¬ D.2.2.2.2.2 (pt * 10 + D.1 k).toNatClampNeg = -1) (c : mxI (thD D k pt da) (D.2.2.2.1 k) ≤ D.2.2.2.2.1 k) : stD D k pt da = mxI (thD D k pt da) (D.2.2.2.1 k) := by
  unfold stD
  rw [if_neg h, if_pos c]
theorem stD_inv {D : DT} {k : Nat} {pt da : Int32} (hs : ¬ stD D k pt da = -1) : (¬ D.2.2.2.2.2 (pt * 10 + D.1 k).toNatClampNeg = -1) ∧ mxI (thD D k pt da) (D.2.2.2.1 k) ≤ D.2.2.2.2.1 k ∧ stD D k pt da = mxI (thD D k pt da) (D.2.2.2.1 k) := by
  have h1 : ¬ D.2.2.2.2.2 (pt * 10 + D.1 k).toNatClampNeg = -1 := fun q => hs (stD_no q)
  have h2 : mxI (thD D k pt da) (D.2.2.2.1 k) ≤ D.2.2.2.2.1 k := Classical.not_not.mp fun q => hs (stD_late q)
  exact ⟨h1, h2, stD_ok h1 h2⟩
theorem mxI_dn {D : DT} (h : okD D) {k : Nat} (hk : k < 7) {pt da : Int32} : ¬ mxI (thD D k pt da) (D.2.2.2.1 k) = -1 := by
  intro q
  have h4 := inR_b (h k hk).2.2.2.1 (a := 0) (by decide) (b := 999) (by decide)
  have m := mxI_r (thD D k pt da) (D.2.2.2.1 k)
  rw [q] at m
  have e : (-1 : Int32).toInt = -1 := by decide
  omega
theorem stD_bd {D : DT} (h : okD D) {k : Nat} (hk : k < 7) {pt da : Int32} (hs : ¬ stD D k pt da = -1) : 0 ≤ (stD D k pt da).toInt ∧ (stD D k pt da).toInt ≤ 999 := by
  obtain ⟨-, c, e⟩ := stD_inv hs
  have h4 := inR_b (h k hk).2.2.2.1 (a := 0) (by decide) (b := 999) (by decide)
  have h5 := inR_b (h k hk).2.2.2.2 (a := 0) (by decide) (b := 999) (by decide)
  have m := mxI_r (thD D k pt da) (D.2.2.2.1 k)
  have c2 := (ii_le _ _).mp c
  rw [e]
  omega
theorem stD_mono {D : DT} (h : okD D) {k : Nat} (hk : k < 7) {pt da da' : Int32} (h0 : 0 ≤ da'.toInt) (h1 : da.toInt ≤ 2000) (hle : da'.toInt ≤ da.toInt) (hs : ¬ stD D k pt da = -1) : (¬ stD D k pt da' = -1) ∧ (stD D k pt da').toInt ≤ (stD D k pt da).toInt := by
  obtain ⟨a, c, e⟩ := stD_inv hs
  have m : (mxI (thD D k pt da') (D.2.2.2.1 k)).toInt ≤ (mxI (thD D k pt da) (D.2.2.2.1 k)).toInt := mxI_mono (thD_mono h0 h1 hle)
  have c' : mxI (thD D k pt da') (D.2.2.2.1 k) ≤ D.2.2.2.2.1 k := by
    rw [ii_le] at c ⊢
    omega
  have e' := stD_ok a c'
  refine ⟨?_, by rw [e, e']; exact m⟩
  rw [e']
  exact mxI_dn h hk
/-- when the one who does delivery k is free again -/
theorem frD {D : DT} (h : okD D) {k : Nat} (hk : k < 7) {pt da : Int32} (hs : ¬ stD D k pt da = -1) : (stD D k pt da + D.2.2.1 k).toInt = (stD D k pt da).toInt + (D.2.2.1 k).toInt ∧ 0 ≤ (stD D k pt da + D.2.2.1 k).toInt ∧ (stD D k pt da + D.2.2.1 k).toInt ≤ 1199 := by
  have b := stD_bd h hk hs
  have h3 := inR_b (h k hk).2.2.1 (a := 0) (by decide) (b := 200) (by decide)
  have e := addI (x := stD D k pt da) (y := D.2.2.1 k) rfl rfl (by omega) (by omega)
  omega
/-- what a crew can come to in j steps -/
def FeK (D : DT) (n : Nat) (pr dr : Int32) : Nat → Nat → Int32 → Int32 → Prop
  | 0, S, pt, da => S = 0 ∧ pt = pr ∧ da = dr
  | j + 1, S, pt, da => ∃ (S0 : Nat) (p0 t0 : Int32) (k : Nat), FeK D n pr dr j S0 p0 t0 ∧ k < n ∧ Nat.testBit S0 k = false ∧ (¬ stD D k p0 t0 = -1) ∧ S = S0 ||| (1 <<< k) ∧ pt = D.2.1 k ∧ da = stD D k p0 t0 + D.2.2.1 k
def Fe (D : DT) (n : Nat) (pr dr : Int32) (S : Nat) (pt da : Int32) : Prop := ∃ j, FeK D n pr dr j S pt da
theorem Fe_root (D : DT) (n : Nat) (pr dr : Int32) : Fe D n pr dr 0 pr dr := ⟨0, rfl, rfl, rfl⟩
theorem Fe_step {D : DT} {n : Nat} {pr dr : Int32} {S : Nat} {pt da : Int32} (h : Fe D n pr dr S pt da) {k : Nat} (hk : k < n) (hb : Nat.testBit S k = false) (hs : ¬ stD D k pt da = -1) : Fe D n pr dr (S ||| (1 <<< k)) (D.2.1 k) (stD D k pt da + D.2.2.1 k) := by
  obtain ⟨j, hj⟩ := h
  exact ⟨j + 1, S, pt, da, k, hj, hk, hb, hs, rfl, rfl, rfl⟩
/-- every delivery that can be begun behind this node is come to, no later -/
def Clo (D : DT) (n : Nat) (V : Nat → Nat → Int32 → Prop) (S : Nat) (pt da : Int32) : Prop := ∀ k : Nat, k < n → Nat.testBit S k = false → (¬ stD D k pt da = -1) → ∃ f : Int32, V (S ||| (1 <<< k)) k f ∧ f.toInt ≤ (stD D k pt da + D.2.2.1 k).toInt
theorem Clo_up {D : DT} {n : Nat} {V V' : Nat → Nat → Int32 → Prop} (hV : ∀ S k f, V S k f → V' S k f) {S : Nat} {pt da : Int32} (h : Clo D n V S pt da) : Clo D n V' S pt da := fun k hk hb hs => by
  obtain ⟨f, h1, h2⟩ := h k hk hb hs
  exact ⟨f, hV _ _ _ h1, h2⟩
theorem fe_all {D : DT} (h : okD D) {n : Nat} (hn : n ≤ 7) {pr dr : Int32} (hd0 : 0 ≤ dr.toInt) (hd1 : dr.toInt ≤ 999) {V : Nat → Nat → Int32 → Prop} (hr : Clo D n V 0 pr dr) (hc : ∀ S k f, V S k f → 0 ≤ f.toInt ∧ Clo D n V S (D.2.1 k) f) :
    ∀ (j S : Nat) (pt da : Int32), FeK D n pr dr (j + 1) S pt da → 0 ≤ da.toInt ∧ da.toInt ≤ 1199 ∧ ∃ k f, V S k f ∧ D.2.1 k = pt ∧ f.toInt ≤ da.toInt := by
  intro j
  induction j with
  | zero =>
    intro S pt da hF
    obtain ⟨S0, p0, t0, k, ⟨rfl, rfl, rfl⟩, hk, hb, hs, rfl, rfl, rfl⟩ := hF
    obtain ⟨f, h1, h2⟩ := hr k hk hb hs
    obtain ⟨-, b0, b1⟩ := frD h (by omega) hs
    exact ⟨b0, b1, k, f, h1, rfl, h2⟩
  | succ j ih =>
    intro S pt da hF
    obtain ⟨S0, p0, t0, k, hF0, hk, hb, hs, rfl, rfl, rfl⟩ := hF
    obtain ⟨t0a, t0b, k0, f0, hV0, rfl, hf0⟩ := ih S0 p0 t0 hF0
    obtain ⟨f0a, hC0⟩ := hc _ _ _ hV0
    obtain ⟨m1, m2⟩ := stD_mono h (k := k) (by omega) f0a (by omega) hf0 hs
    obtain ⟨f, g1, g2⟩ := hC0 k hk hb m1
    obtain ⟨e1, b0, b1⟩ := frD h (k := k) (by omega) hs
    obtain ⟨e2, -, -⟩ := frD h (k := k) (by omega) m1
    exact ⟨b0, b1, k, f, g1, rfl, by omega⟩
