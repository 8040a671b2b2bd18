theorem arr_of {args : Array Value} {s : State} {ty : FieldType} (hne : ∀ C, ty ≠ .object C) (h : (Cond.arrayClass ty).before args s = true) : ∃ cA : ClassId, ArrOfT s cA ty ∧ va_RA s cA ty := by
  obtain ⟨c, k, comp, h1, h2, h3⟩ := Cond.arrayClass_spec h
  refine ⟨c, fun n z => ⟨fun k h => (by cases h), k, h2, comp, h3⟩, ?_⟩
  cases ty with
  | object C => exact absurd rfl (hne C)
  | _ => exact h1
theorem arr_ofO {s : State} {C : String} (h : va_AO C s) : ∃ cA : ClassId, ArrOfT s cA (.object C) ∧ va_RA s cA (.object C) := by
  obtain ⟨comp, c, k, h1, h2, h3, h4, h5⟩ := Cond.arrayOver_spec h
  exact ⟨c, fun n z => ⟨fun k h => (by cases h), k, h3, comp, h4⟩, k, comp, h3, h4, h1, h5⟩
theorem selB (b : Int32) : inR b 0 5 = false ∨ b.toNatClampNeg = 0 ∨ b.toNatClampNeg = 1 ∨ b.toNatClampNeg = 2 ∨ b.toNatClampNeg = 3 ∨ b.toNatClampNeg = 4 ∨ b.toNatClampNeg = 5 := by
  cases h : inR b 0 5 with
  | false => exact Or.inl rfl
  | true =>
    obtain ⟨j, hj, rfl⟩ := inR_nI (n := 5) (by decide) h
    rw [nI_clamp (by omega)]
    omega
theorem selC (w : Int32) : (inR w 10 15 = false ∧ inR w 20 25 = false) ∨ (inR w 20 25 = false ∧ ((w - 10).toNatClampNeg = 0 ∨ (w - 10).toNatClampNeg = 1 ∨ (w - 10).toNatClampNeg = 2 ∨ (w - 10).toNatClampNeg = 3 ∨ (w - 10).toNatClampNeg = 4 ∨ (w - 10).toNatClampNeg = 5)) ∨ (inR w 10 15 = false ∧ ((w - 20).toNatClampNeg = 0 ∨ (w - 20).toNatClampNeg = 1 ∨ (w - 20).toNatClampNeg = 2 ∨ (w - 20).toNatClampNeg = 3 ∨ (w - 20).toNatClampNeg = 4 ∨ (w - 20).toNatClampNeg = 5)) := by
  cases h : inR w 10 15 with
  | true =>
    obtain ⟨h1, h2⟩ := ixS h (a := 10) rfl (b := 15) (K := 6) (by decide) (by decide) (by decide) (by decide)
    refine Or.inr (Or.inl ⟨inR_f.mpr (fun q => ?_), ?_⟩)
    · have a := (ii_le _ _).mp (inR_t.mp h).2
      have c := (ii_le _ _).mp q.1
      simp at a c
      omega
    · have := Nat.not_le.mp (fun q => h1 (Or.inr q))
      omega
  | false =>
    cases h' : inR w 20 25 with
    | true =>
      obtain ⟨h1, h2⟩ := ixS h' (a := 20) rfl (b := 25) (K := 6) (by decide) (by decide) (by decide) (by decide)
      have := Nat.not_le.mp (fun q => h1 (Or.inr q))
      exact Or.inr (Or.inr ⟨rfl, by omega⟩)
    | false => exact Or.inl ⟨rfl, rfl⟩
theorem newc_I (n : Nat) (cA : ClassId) : vp_cell cA (n, .inl (fun _ => 0)) = arrV cA n (fun _ => defaultValue .int) := rfl
theorem newc_Z (n : Nat) (cA : ClassId) : vp_cell cA (n, .inl (fun _ => 0)) = arrV cA n (fun _ => defaultValue .boolean) := rfl
theorem newc_B (n : Nat) (cA : ClassId) : vp_cell cA (n, .inl (fun _ => 0)) = arrV cA n (fun _ => defaultValue .byte) := rfl
theorem newc_J (n : Nat) (cA : ClassId) : vp_cell cA (n, .inr (.inl (fun _ => 0))) = arrV cA n (fun _ => defaultValue .long) := rfl
