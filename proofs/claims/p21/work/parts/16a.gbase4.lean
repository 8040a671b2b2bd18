theorem bI_on {n : Nat} (h : n < 7) : bI (inR (nI n) 0 6) = 1 := by
  have : inR (nI n) 0 6 = true := inR_t.mpr ⟨nI_pos' (by omega), nI_le (b := 6) (by omega) (by decide)⟩
  rw [this]; rfl
theorem add_fact {d1 : Nat → Int32} {on : Nat} {fr : Int32} (hd1 : ∀ k, k < 7 → inR (d1 k) 0 9 = true) (hfr : inR fr 0 9 = true) : ∀ k, k < 7 → inR (upd d1 on fr k) 0 9 = true := by
  intro k hk
  by_cases h : k = on
  · rw [h, pk_us]; exact hfr
  · rw [pk_un h]; exact hd1 k hk
