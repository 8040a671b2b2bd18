def boatS (b what : Int32) : Int32 := cond (inR b 0 5) (cond (inR what 10 13) 10000 (cond (decide (what = 0)) 0 (cond (decide (what = 1)) 0 (-9)))) (-9)
def countS (what : Int32) : Int32 := cond (inR what 10 15) 0 (cond (inR what 20 25) 0 (cond (inR what 30 39) 0 (cond (decide (what = 0)) 0 (cond (decide (what = 1)) 0 (cond (decide (what = 2)) 0 (cond (decide (what = 3)) 0 (-1)))))))
theorem ff_read {ff : Nat → Int32} (h : ∀ k, k < 100 → ff k = if k % 11 = 0 then 0 else -1) {x y : Int32} (hx : inR x 0 9 = true) (hy : inR y 0 9 = true) (hne : ¬ x = y) : ff (x * 10 + y).toNatClampNeg = -1 := by
  obtain ⟨i, hi, rfl⟩ := inR_nI (n := 9) (by decide) hx
  obtain ⟨j, hj, rfl⟩ := inR_nI (n := 9) (by decide) hy
  have hij : i ≠ j := fun e => hne (by rw [e])
  rw [ixm (c := 10) (M := 10) rfl, nI_clamp (by omega), h _ (by omega), if_neg (by omega)]
theorem upd_same {v : Int32} {k : Nat} : upd (fun _ => v) k v = (fun _ => v) := by
  funext j
  unfold upd
  split <;> rfl
theorem endA {n : Int32} (c : n < 0) : (-1 : Int32) = cond (inR n 0 0) n (-1) := by
  rw [inR_f.mpr (fun h => Int32.not_lt.mpr h.1 c)]; rfl
theorem endB {n : Int32} (c : ¬ n ≤ 0) : (-1 : Int32) = cond (inR n 0 0) n (-1) := by
  rw [inR_f.mpr (fun h => c h.2)]; rfl
theorem endC {n : Int32} (c1 : ¬ n < 0) (c2 : n ≤ 0) : n = cond (inR n 0 0) n (-1) := by
  rw [inR_t.mpr ⟨Int32.not_lt.mp c1, c2⟩]; rfl
theorem ff_read2 {ff : Nat → Int32} (h : ∀ k, k < 100 → ff k = if k % 11 = 0 then 0 else -1) {x y : Int32} (hx : inR x 0 9 = true) (hy : inR y 0 9 = true) (hne : ¬ x = y) : ff (10 * x + y).toNatClampNeg = -1 := by
  obtain ⟨i, hi, rfl⟩ := inR_nI (n := 9) (by decide) hx
  obtain ⟨j, hj, rfl⟩ := inR_nI (n := 9) (by decide) hy
  have hij : i ≠ j := fun e => hne (by rw [e])
  rw [ixn (c := 10) (M := 10) rfl, nI_clamp (by omega), h _ (by omega), if_neg (by omega)]
theorem ix_sp {b a d : Int32} (hb : inR b 0 5 = true) (ha : inR a 0 4 = true) (hd : inR d 0 4 = true) : vp_in (25 * b + 5 * a + d) 150 := by
  obtain ⟨i, hi, rfl⟩ := inR_nI (n := 5) (by decide) hb
  obtain ⟨j, hj, rfl⟩ := inR_nI (n := 4) (by decide) ha
  obtain ⟨k, hk, rfl⟩ := inR_nI (n := 4) (by decide) hd
  rw [show (25 : Int32) = nI 25 from rfl, show (5 : Int32) = nI 5 from rfl, pk_mul, pk_mul, nI_add, nI_add]
  exact vp_in_nI (by omega) (by decide)
theorem ix_la {b w : Int32} (hb : inR b 0 5 = true) (hw : inR w 10 13 = true) : vp_in (4 * b + w - 10) 24 := by
  obtain ⟨i, hi, rfl⟩ := inR_nI (n := 5) (by decide) hb
  have hs := ixS hw (a := 10) rfl (b := 13) (K := 4) (by decide) (by decide) (by decide) (by decide)
  obtain ⟨h0, h1⟩ := inR_t.mp hw
  obtain ⟨k, hk, rfl⟩ := nI_of (x := w) (Int32.not_lt.mpr (Int32.le_trans (by decide) h0))
  have a0 := (ii_le _ _).mp h0
  have a1 := (ii_le _ _).mp h1
  rw [nI_toInt hk] at a0 a1
  simp at a0 a1
  rw [show (4 : Int32) = nI 4 from rfl, show (10 : Int32) = nI 10 from rfl, pk_mul, nI_add, pk_sub (by omega)]
  exact vp_in_nI (by omega) (by decide)
theorem cov_ge {b : Int32} (hb : inR b 0 5 = true) : 6 * (12 * b + 0) ≤ 72 * b := by
  obtain ⟨i, hi, rfl⟩ := inR_nI (n := 5) (by decide) hb
  rw [show (12 : Int32) = nI 12 from rfl, show (6 : Int32) = nI 6 from rfl, show (72 : Int32) = nI 72 from rfl, show (0 : Int32) = nI 0 from rfl, pk_mul, nI_add, pk_mul, pk_mul]
  exact nI_le (by omega) (by omega)
theorem mPl_neg {x : Int32} (c : x < 0) : (0 : Int32) = bI (isPl x) := isPl_neg c
theorem mPl_col {x : Int32} (c : inR (x / 100) 0 29 = false) : (0 : Int32) = bI (isPl x) := by
  have : isPl x = false := by
    unfold isPl
    rw [c, Bool.false_and, Bool.and_false]
  rw [this]; rfl
theorem mPl_row {x : Int32} (c : inR (x - x / 100 * 100) 0 19 = false) : (0 : Int32) = bI (isPl x) := by
  have : isPl x = false := by
    unfold isPl
    rw [c, Bool.and_false, Bool.and_false]
  rw [this]; rfl
theorem mPl_ok {x : Int32} (c0 : ¬ x < 0) (c1 : inR (x / 100) 0 29 = true) (c2 : inR (x - x / 100 * 100) 0 19 = true) : (1 : Int32) = bI (isPl x) := by
  have : isPl x = true := by
    unfold isPl
    rw [c1, c2, decide_eq_true (Int32.not_lt.mp c0)]
    rfl
  rw [this]; rfl
theorem ix_cp {b : Int32} {i M n K : Nat} {c : Int32} (hc : c = nI M) (hb : inR b 0 5 = true) (hi : i < n) (hK : M * 5 + n ≤ K) (hK2 : K < 2 ^ 31) : vp_in (c * b + nI i) K := by
  obtain ⟨j, hj, rfl⟩ := inR_nI (n := 5) (by decide) hb
  rw [ixn hc]
  have := Nat.mul_le_mul_left M hj
  exact vp_in_nI (by omega) hK2
