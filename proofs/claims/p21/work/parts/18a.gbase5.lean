theorem pl_ix {w x lo : Int32} {a on : Nat} (h : inR w lo x = true) (hx : x = nI (a + on) - 1) (hon : on ≤ 7) (ha : 0 < a ∧ a ≤ 100) (hlo : lo = nI a) : vp_in (w - lo) 7 := by
  rw [nI_dec (by omega)] at hx
  rcases Nat.eq_zero_or_pos on with q | q
  · obtain ⟨h0, h1⟩ := inR_t.mp h
    have a0 := (ii_le _ _).mp h0
    have a1 := (ii_le _ _).mp h1
    rw [hlo, nI_toInt (by omega)] at a0
    rw [hx, nI_toInt (by omega)] at a1
    omega
  · exact (ixS h (a := a) hlo (b := a + on - 1) (by rw [hx]; exact nI_toInt (by omega)) (by omega) (by omega) (by decide)).1
