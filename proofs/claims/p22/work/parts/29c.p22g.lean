/-- the reference's row as plan lays it out -/
def row0 (c : Nat → Int32) (k : Nat) : Prop := ∀ j : Nat, j < k → (j % 128 = 0 → c j = 0) ∧ (¬ j % 128 = 0 → c j = -1)
theorem row0_0 {c : Nat → Int32} : row0 c 0 := fun j hj => absurd hj (Nat.not_lt_zero _)
theorem row0_next {c f : Nat → Int32} {k : Nat} (h : row0 c k) {v : Int32} (e : f = upd c k v) (hv : (k % 128 = 0 → v = 0) ∧ (¬ k % 128 = 0 → v = -1)) : row0 f (k + 1) := by
  intro j hj
  rw [e]
  by_cases q : j = k
  · rw [q, pk_us]; exact hv
  · rw [pk_un q]; exact h j (by omega)
theorem row0_z {k : Nat} (c : nI (k % 128) = 0) : (k % 128 = 0 → (0 : Int32) = 0) ∧ (¬ k % 128 = 0 → (0 : Int32) = -1) := ⟨fun _ => rfl, fun q => absurd ((nI_eq (b := 0) (by omega) (by decide)).mp c) q⟩
theorem row0_n {k : Nat} (c : ¬ nI (k % 128) = 0) : (k % 128 = 0 → (-1 : Int32) = 0) ∧ (¬ k % 128 = 0 → (-1 : Int32) = -1) := ⟨fun q => absurd (by rw [q]; rfl) c, fun _ => rfl⟩
/-- rows of crews below k are worked out, the others as they were laid -/
def plI (D : DT) (n : Nat) (d6 d7 c : Nat → Int32) (k : Nat) : Prop :=
  (∀ i : Nat, i < k → ∀ z : Nat, z < 128 → ((¬ c (128 * i + z) = -1) ↔ OKc D n d6 d7 i z)) ∧ (∀ i : Nat, k ≤ i → i < 4 → ∀ z : Nat, z < 128 → ((z = 0 → c (128 * i + z) = 0) ∧ (0 < z → c (128 * i + z) = -1)))
section
variable {D : DT} {n : Nat} {d6 d7 c c' : Nat → Int32} {k : Nat}
theorem plI_0 (h : row0 c 512) : plI D n d6 d7 c 0 := by
  refine ⟨fun i hi => absurd hi (Nat.not_lt_zero _), fun i _ hi z hz => ?_⟩
  have := h (128 * i + z) (by omega)
  refine ⟨fun q => this.1 (by omega), fun q => this.2 (by omega)⟩
theorem plI_row (h : plI D n d6 d7 c k) (hk : k < 4) : ∀ S : Nat, 0 < S → S < 128 → c (128 * k + S) = -1 := fun S h0 hS => (h.2 k (Nat.le_refl _) hk S hS).2 h0
theorem plI_none (h : plI D n d6 d7 c k) (hk : k < 4) (hn : d6 k = -1) : plI D n d6 d7 c (k + 1) := by
  refine ⟨fun i hi z hz => ?_, fun i h1 h2 => h.2 i (by omega) h2⟩
  by_cases q : i = k
  · subst q
    have r := h.2 i (Nat.le_refl _) hk z hz
    rcases Nat.eq_zero_or_pos z with e | e
    · rw [r.1 e]
      exact ⟨fun _ => Or.inl e, fun _ => by decide⟩
    · rw [r.2 e]
      exact ⟨fun w => absurd rfl w, fun w => absurd w (OKc_no hn z e)⟩
  · exact h.1 i (by omega) z hz
theorem plI_told (h : plI D n d6 d7 c k) (hk : k < 4) (hn : ¬ d6 k = -1) (hX : TrP D n (d6 k) (d7 k) k c (fun _ _ _ => False) c' 0 (d6 k) (d7 k)) : plI D n d6 d7 c' (k + 1) := by
  obtain ⟨s1, s2, s3⟩ := SrM_of hX
  refine ⟨fun i hi z hz => ?_, fun i h1 h2 z hz => ?_⟩
  · by_cases q : i = k
    · subst q
      rcases Nat.eq_zero_or_pos z with e | e
      · rw [e]
        exact ⟨fun _ => Or.inl rfl, fun _ => s3⟩
      · rw [s1 z e hz]
        exact OKc_yes e hn
    · rw [s2 (128 * i + z) (by omega)]
      exact h.1 i (by omega) z hz
  · rw [s2 (128 * i + z) (by omega)]
    exact h.2 i (by omega) h2 z hz
theorem plI_K (h : plI D n d6 d7 c 4) : ∀ i : Nat, i < 4 → ∀ z : Nat, z < 128 → ((¬ c (128 * i + z) = -1) ↔ OKc D n d6 d7 i z) := h.1
end
theorem sets0_next {c f : Nat → Int32} {k : Nat} (h : ∀ i : Nat, i < k → c i = 0) (e : f = upd c k 0) : ∀ i : Nat, i < k + 1 → f i = 0 := by
  intro i hi
  rw [e]
  by_cases q : i = k
  · rw [q, pk_us]
  · rw [pk_un q]; exact h i (by omega)
