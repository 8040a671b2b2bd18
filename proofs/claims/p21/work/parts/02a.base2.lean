theorem isPl_neg {x : Int32} (c : x < 0) : (0 : Int32) = bI (isPl x) := by
  have : isPl x = false := by
    unfold isPl
    rw [decide_eq_false (Int32.not_le.mpr c)]
    rfl
  rw [this]; rfl
theorem isPl_col {x rc : Int32} (h : rc = x / 100) (c : 30 ≤ rc) : (0 : Int32) = bI (isPl x) := by
  have h2 : inR (x / 100) 0 29 = false := inR_f.mpr (fun q => by
    rw [h] at c
    have a := (ii_le _ _).mp q.2
    have b := (ii_le _ _).mp c
    simp at a b
    omega)
  have : isPl x = false := by
    unfold isPl
    rw [h2, Bool.false_and, Bool.and_false]
  rw [this]; rfl
theorem isPl_row {x rr : Int32} (h : rr = x - x / 100 * 100) (c : 20 ≤ rr) : (0 : Int32) = bI (isPl x) := by
  have h2 : inR (x - x / 100 * 100) 0 19 = false := inR_f.mpr (fun q => by
    rw [h] at c
    have a := (ii_le _ _).mp q.2
    have b := (ii_le _ _).mp c
    simp at a b
    omega)
  have : isPl x = false := by
    unfold isPl
    rw [h2, Bool.and_false, Bool.and_false]
  rw [this]; rfl
theorem pl_nn {x : Int32} (c : ¬ x < 0) : 0 ≤ x / 100 ∧ 0 ≤ x - x / 100 * 100 := by
  obtain ⟨j, hj, rfl⟩ := nI_of c
  have e1 : nI j / 100 = nI (j / 100) := pk_div (d := 100) hj (by decide) (by decide)
  have e2 : nI j - nI j / 100 * 100 = nI (j % 100) := pk_rem (d := 100) hj (by decide) (by decide)
  rw [e2, e1]
  exact ⟨nI_pos' (by omega), nI_pos' (by omega)⟩
theorem isPl_ok {x rc rr : Int32} (c0 : ¬ x < 0) (h1 : rc = x / 100) (c1 : ¬ 30 ≤ rc) (h2 : rr = x - x / 100 * 100) (c2 : ¬ 20 ≤ rr) : (1 : Int32) = bI (isPl x) := by
  obtain ⟨n1, n2⟩ := pl_nn c0
  have q1 : inR (x / 100) 0 29 = true := inR_t.mpr ⟨n1, by
    rw [h1] at c1
    have b := fun q => c1 ((ii_le _ _).mpr q)
    rw [ii_le]
    simp at b
    simp
    omega⟩
  have q2 : inR (x - x / 100 * 100) 0 19 = true := inR_t.mpr ⟨n2, by
    rw [h2] at c2
    have b := fun q => c2 ((ii_le _ _).mpr q)
    rw [ii_le]
    simp at b
    simp
    omega⟩
  have : isPl x = true := by
    unfold isPl
    rw [q1, q2, decide_eq_true (Int32.not_lt.mp c0)]
    rfl
  rw [this]; rfl
