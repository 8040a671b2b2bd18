theorem or_zero {s : Nat} (hs : s < 128) : ∃ w, w < 128 ∧ nI s ||| 0 = nI w := ⟨s, hs, by
  apply Int32.toBitVec_inj.mp
  simp⟩
theorem sub_one {m : Nat} {y : Int32} (hm : m < 2 ^ 3) (e : y = nI m - 1) (c : ¬ y < 0) : ∃ d : Nat, d < 7 ∧ y = nI d := by
  cases m with
  | zero => exact absurd (show y < 0 by rw [e]; decide) c
  | succ k => exact ⟨k, by omega, by rw [e]; exact nI_pred k⟩
theorem sub3 {z : Int32} {n0 : Nat} {hn : (z.toInt + 3).toNat < n0 + 1} (c : ¬ z < 0) : ((z + (-3)).toInt + 3).toNat < n0 := by
  have a := (ii_le _ _).mp (Int32.not_lt.mp c)
  have h3 := Int32.toInt_lt z
  simp at a
  rw [Int32.toInt_add]
  simp
  rw [Int.bmod_eq_of_le] <;> omega
