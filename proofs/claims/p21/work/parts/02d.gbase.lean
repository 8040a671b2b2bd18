theorem s_len {i : Nat} (hi : i < 17) : sLen.getD i 0 < 2 ^ 31 := by
  have : ∀ i, i < 17 → sLen.getD i 0 < 2 ^ 31 := by decide +kernel
  exact this i hi
theorem vin_lt {x n : Int32} {k : Nat} (c0 : ¬ x < 0) (h : n.toInt = k) (c : ¬ n ≤ x) : vp_in x k := by
  rw [vp_in_iff]
  have a := (ii_le _ _).mp (Int32.not_lt.mp c0)
  have b := (ii_lt _ _).mp (Int32.not_le.mp c)
  simp at a
  omega
theorem toInt_s {x y : Int32} (h : ¬ y ≤ x) : (x + 1).toInt = x.toInt + 1 := by
  have h2 := (ii_lt _ _).mp (Int32.not_le.mp h)
  have h3 := Int32.toInt_lt y
  have h4 := Int32.le_toInt x
  rw [Int32.toInt_add]
  simp
  rw [Int.bmod_eq_of_le] <;> omega
theorem z01 {r : Int32} (h : r = 0 ∨ r = 1) : narrow .boolean (.int r) = .int r := by
  rcases h with rfl | rfl <;> decide
def sWn (j : Nat) : Int32 := match j with | 0 => 15625 | 1 => 3125 | 2 => 625 | 3 => 125 | 4 => 25 | 5 => 5 | _ => 1
def sCn (j : Nat) : Int32 := match j with | 0 => 7 | 1 => 0 | 2 => 1 | 3 => 6 | 4 => 0 | 5 => 2 | 6 => 5 | 7 => 4 | _ => 3
theorem sWf_eq (j : Nat) : sWf j = .int (sWn j) := rfl
theorem sCf_eq (j : Nat) : sCf j = .int (sCn j) := rfl
theorem b01_of {r : Int32} {b : Bool} (h : r = bI b) : r = 0 ∨ r = 1 := by
  cases b with
  | false => exact Or.inl h
  | true => exact Or.inr h
theorem go_dec {go g2 : Int32} {n0 : Nat} {hn : go.toInt.toNat < n0 + 1} (c : ¬ go < 10) (h : g2 = go - 10 ∨ g2 = 0) : g2.toInt.toNat < n0 := by
  have a := (ii_le _ _).mp (Int32.not_lt.mp c)
  have h3 := Int32.toInt_lt go
  simp at a
  rcases h with rfl | rfl
  · rw [Int32.toInt_sub]
    simp
    rw [Int.bmod_eq_of_le] <;> omega
  · simp
    omega
theorem nI_clamp_lt {d n : Nat} (h : d < n) (hn : n < 2 ^ 31) : (nI d).toNatClampNeg < n := by rw [nI_clamp (by omega)]; exact h
theorem or_bit_all : ∀ s, s < 128 → ∀ k, k < 7 → ((nI s ||| ((1 : Int32) <<< (nI k &&& 31))).toBitVec.toNat < 128) := by decide +kernel
theorem or_bit {s k : Nat} (hs : s < 128) (hk : k < 7) : ∃ w, w < 128 ∧ nI s ||| ((1 : Int32) <<< (nI k &&& 31)) = nI w := by
  have h := or_bit_all s hs k hk
  generalize nI s ||| ((1 : Int32) <<< (nI k &&& 31)) = x at h
  refine ⟨x.toBitVec.toNat, h, ?_⟩
  apply Int32.toBitVec_inj.mp
  apply BitVec.eq_of_toNat_eq
  rw [pk_tn (by omega)]
theorem sWn_all : ∀ k, k < 7 → ¬ sWn k = 0 := by decide +kernel
theorem sWn_ne {k : Nat} (h : k < 7) : ¬ sWn (nI k).toNatClampNeg = 0 := by rw [nI_clamp (by omega)]; exact sWn_all k h
