/-- the reference's search: nodes (set, place, day) -/
abbrev VM : Type := Nat → Int32 → Int32 → Prop
def CloM (D : DT) (n : Nat) (V : VM) (S : Nat) (pt da : Int32) : Prop := ∀ k : Nat, k < n → Nat.testBit S k = false → (¬ stD D k pt da = -1) → V (S ||| (1 <<< k)) (D.2.1 k) (stD D k pt da + D.2.2.1 k)
theorem CloM_up {D : DT} {n : Nat} {V V' : VM} (hV : ∀ S pt da, V S pt da → V' S pt da) {S : Nat} {pt da : Int32} (h : CloM D n V S pt da) : CloM D n V' S pt da := fun k hk hb hs => hV _ _ _ (h k hk hb hs)
def VpM (V : VM) (S : Nat) (pt da : Int32) : VM := fun S' p' t' => V S' p' t' ∨ (S' = S ∧ p' = pt ∧ t' = da)
def QM (D : DT) (n : Nat) (pr dr : Int32) (cr : Nat) (c0 : Nat → Int32) (V : VM) (c1 : Nat → Int32) : Prop :=
  (∀ j : Nat, (j < 128 * cr ∨ 128 * cr + 128 ≤ j) → c1 j = c0 j) ∧
  (∀ S pt da, V S pt da → S < 128 ∧ (¬ c1 (128 * cr + S) = -1) ∧ Fe D n pr dr S pt da) ∧
  (∀ S : Nat, 0 < S → S < 128 → (¬ c1 (128 * cr + S) = -1) → ∃ pt da, V S pt da)
theorem QM_new {D : DT} {n : Nat} {pr dr : Int32} {cr : Nat} {c1 : Nat → Int32} (h1 : ∀ S : Nat, 0 < S → S < 128 → c1 (128 * cr + S) = -1) : QM D n pr dr cr c1 (fun _ _ _ => False) c1 := ⟨fun _ _ => rfl, fun S pt da h => False.elim h, fun S h0 h h2 => absurd (h1 S h0 h) h2⟩
theorem QM_step {D : DT} {n : Nat} {pr dr : Int32} {cr : Nat} {V : VM} {c0 c1 c1' : Nat → Int32} (hQ : QM D n pr dr cr c0 V c1) {S : Nat} {pt da pd : Int32} (hS : S < 128) (hF : Fe D n pr dr S pt da) (h1 : (c1' = c1 ∨ c1' = upd c1 (128 * cr + S) pd) ∧ ¬ c1' (128 * cr + S) = -1) : QM D n pr dr cr c0 (VpM V S pt da) c1' := by
  obtain ⟨q0, q1, q2⟩ := hQ
  obtain ⟨e1, n1⟩ := h1
  have same : ∀ T : Nat, T ≠ S → c1' (128 * cr + T) = c1 (128 * cr + T) := by
    intro T hT
    rcases e1 with rfl | rfl
    · rfl
    · exact pk_un (by omega)
  refine ⟨fun j hj => ?_, ?_, ?_⟩
  · rw [← q0 j hj]
    rcases e1 with rfl | rfl
    · rfl
    · exact pk_un (by omega)
  · intro T j g hV
    rcases hV with hV | ⟨rfl, rfl, rfl⟩
    · obtain ⟨a1, a2, a3⟩ := q1 T j g hV
      refine ⟨a1, ?_, a3⟩
      by_cases hT : T = S
      · rw [hT]; exact n1
      · rw [same T hT]; exact a2
    · exact ⟨hS, n1, hF⟩
  · intro T hT0 hT hc
    by_cases e : T = S
    · exact ⟨pt, da, Or.inr ⟨e, rfl, rfl⟩⟩
    · rw [same T e] at hc
      obtain ⟨j, g, hV⟩ := q2 T hT0 hT hc
      exact ⟨j, g, Or.inl hV⟩
/-- what tries leaves behind -/
def TrP (D : DT) (n : Nat) (pr dr : Int32) (cr : Nat) (c0 : Nat → Int32) (V : VM) (c1 : Nat → Int32) (S : Nat) (pt da : Int32) : Prop :=
  ∃ V2 : VM, (∀ T p t, V T p t → V2 T p t) ∧ QM D n pr dr cr c0 V2 c1 ∧ (∀ T p t, V2 T p t → V T p t ∨ CloM D n V2 T p t) ∧ V2 S pt da ∧ CloM D n V2 S pt da
/-- its loop -/
def TrI (D : DT) (n : Nat) (pr dr : Int32) (cr : Nat) (c0 : Nat → Int32) (V0 V : VM) (c1 : Nat → Int32) (S : Nat) (pt da : Int32) (k : Nat) : Prop :=
  (∀ T p t, V0 T p t → V T p t) ∧ QM D n pr dr cr c0 V c1 ∧ (∀ T p t, V T p t → V0 T p t ∨ (T = S ∧ p = pt ∧ t = da) ∨ CloM D n V T p t) ∧ V S pt da ∧
  (∀ j : Nat, j < k → j < n → Nat.testBit S j = false → (¬ stD D j pt da = -1) → V (S ||| (1 <<< j)) (D.2.1 j) (stD D j pt da + D.2.2.1 j))
section
variable {D : DT} {n : Nat} {pr dr : Int32} {cr : Nat} {V0 V : VM} {c0 c1 c1' : Nat → Int32} {S : Nat} {pt da : Int32} {k : Nat}
theorem TrI_0 (hQ : QM D n pr dr cr c0 V c1) {pd : Int32} (hS : S < 128) (hF : Fe D n pr dr S pt da) (h1 : (c1' = c1 ∨ c1' = upd c1 (128 * cr + S) pd) ∧ ¬ c1' (128 * cr + S) = -1) : TrI D n pr dr cr c0 V (VpM V S pt da) c1' S pt da 0 :=
  ⟨fun _ _ _ h => Or.inl h, QM_step hQ hS hF h1, fun _ _ _ h => h.elim Or.inl (fun e => Or.inr (Or.inl e)), Or.inr ⟨rfl, rfl, rfl⟩, fun j hj => absurd hj (Nat.not_lt_zero _)⟩
theorem TrI_end (h : TrI D n pr dr cr c0 V0 V c1 S pt da k) (hk : n ≤ k) : TrP D n pr dr cr c0 V0 c1 S pt da := by
  have hc : CloM D n V S pt da := fun j hj => h.2.2.2.2 j (by omega) hj
  refine ⟨V, h.1, h.2.1, fun T p t q => ?_, h.2.2.2.1, hc⟩
  rcases h.2.2.1 T p t q with q | ⟨rfl, rfl, rfl⟩ | q
  · exact Or.inl q
  · exact Or.inr hc
  · exact Or.inr q
theorem TrI_next (h : TrI D n pr dr cr c0 V0 V c1 S pt da k) (hk : k < n → Nat.testBit S k = false → (¬ stD D k pt da = -1) → V (S ||| (1 <<< k)) (D.2.1 k) (stD D k pt da + D.2.2.1 k)) : TrI D n pr dr cr c0 V0 V c1 S pt da (k + 1) := by
  refine ⟨h.1, h.2.1, h.2.2.1, h.2.2.2.1, fun j hj hn hb hs => ?_⟩
  by_cases e : j = k
  · subst e; exact hk hn hb hs
  · exact h.2.2.2.2 j (by omega) hn hb hs
theorem TrI_bit (h : TrI D n pr dr cr c0 V0 V c1 S pt da k) (hb : Nat.testBit S k = true) : TrI D n pr dr cr c0 V0 V c1 S pt da (k + 1) := TrI_next h (fun _ q => by rw [hb] at q; cases q)
theorem TrI_no (h : TrI D n pr dr cr c0 V0 V c1 S pt da k) (hs : stD D k pt da = -1) : TrI D n pr dr cr c0 V0 V c1 S pt da (k + 1) := TrI_next h (fun _ _ q => absurd hs q)
theorem TrI_vis (h : TrI D n pr dr cr c0 V0 V c1 S pt da k) {w : Nat} (ew : w = S ||| (1 <<< k)) {fr : Int32} (hfr : fr = stD D k pt da + D.2.2.1 k) (hX : TrP D n pr dr cr c0 V c1' w (D.2.1 k) fr) : ∃ V' : VM, TrI D n pr dr cr c0 V0 V' c1' S pt da (k + 1) := by
  obtain ⟨V2, u1, u2, u3, u4, u5⟩ := hX
  refine ⟨V2, fun T p t q => u1 T p t (h.1 T p t q), u2, fun T p t q => ?_, u1 _ _ _ h.2.2.2.1, fun j hj hn hb hs => ?_⟩
  · rcases u3 T p t q with q | q
    · rcases h.2.2.1 T p t q with q | q | q
      · exact Or.inl q
      · exact Or.inr (Or.inl q)
      · exact Or.inr (Or.inr (CloM_up u1 q))
    · exact Or.inr (Or.inr q)
  · by_cases e : j = k
    · subst e
      rw [← ew, ← hfr]
      exact u4
    · exact u1 _ _ _ (h.2.2.2.2 j (by omega) hn hb hs)
end
theorem feM_all {D : DT} {n : Nat} {pr dr : Int32} {V : VM} (hr : V 0 pr dr) (hc : ∀ S pt da, V S pt da → CloM D n V S pt da) : ∀ (j S : Nat) (pt da : Int32), FeK D n pr dr j S pt da → V S pt da := by
  intro j
  induction j with
  | zero =>
    intro S pt da hF
    obtain ⟨rfl, rfl, rfl⟩ := hF
    exact hr
  | succ j ih =>
    intro S pt da hF
    obtain ⟨S0, p0, t0, k, hF0, hk, hb, hs, rfl, rfl, rfl⟩ := hF
    exact hc _ _ _ (ih S0 p0 t0 hF0) k hk hb hs
/-- what the reference's search finds -/
def SrM (D : DT) (n : Nat) (pr dr : Int32) (cr : Nat) (c1 : Nat → Int32) : Prop := ∀ S : Nat, 0 < S → S < 128 → ((¬ c1 (128 * cr + S) = -1) ↔ ∃ pt da, Fe D n pr dr S pt da)
theorem SrM_of {D : DT} {n : Nat} {pr dr : Int32} {cr : Nat} {c0 c1 : Nat → Int32} (hX : TrP D n pr dr cr c0 (fun _ _ _ => False) c1 0 pr dr) : SrM D n pr dr cr c1 ∧ (∀ j : Nat, (j < 128 * cr ∨ 128 * cr + 128 ≤ j) → c1 j = c0 j) ∧ ¬ c1 (128 * cr + 0) = -1 := by
  obtain ⟨V, -, q, u3, u4, u5⟩ := hX
  have hc : ∀ S pt da, V S pt da → CloM D n V S pt da := fun S pt da hV => (u3 S pt da hV).resolve_left (fun e => e)
  refine ⟨fun S h0 hS => ?_, q.1, (q.2.1 0 pr dr u4).2.1⟩
  refine ⟨fun hc1 => ?_, fun ⟨pt, da, j, hj⟩ => (q.2.1 S pt da (feM_all u4 hc j S pt da hj)).2.1⟩
  obtain ⟨pt, da, hV⟩ := q.2.2 S h0 hS hc1
  exact ⟨pt, da, (q.2.1 S pt da hV).2.2⟩
/-- the reference's words for the day on which a delivery begins -/
theorem bg_eq {t f : Int32} : (if f < t then t else f) = mxI t f := by
  unfold mxI
  by_cases h : f < t
  · rw [if_pos h, if_neg (fun q => by rw [ii_lt] at h q; omega)]
  · rw [if_neg h]
    by_cases h2 : t < f
    · rw [if_pos h2]
    · rw [if_neg h2]
      exact (ii_eq _ _).mpr (by rw [ii_lt] at h h2; omega)
theorem bit1_e : ∀ s : Nat, s < 128 → ∀ k : Nat, k < 7 → ((nI s >>> (nI k &&& 31)) &&& 1 = 1 ↔ Nat.testBit s k = true) := by decide +kernel
theorem bit1_t {s k : Nat} (hs : s < 128) (hk : k < 7) (h : (nI s >>> (nI k &&& 31)) &&& 1 = 1) : Nat.testBit s k = true := (bit1_e s hs k hk).mp h
theorem bit1_f {s k : Nat} (hs : s < 128) (hk : k < 7) (h : ¬ (nI s >>> (nI k &&& 31)) &&& 1 = 1) : Nat.testBit s k = false := by
  cases e : Nat.testBit s k with
  | false => rfl
  | true => exact absurd ((bit1_e s hs k hk).mpr e) h
theorem ixM {po w k : Nat} {f : Nat → Int32} (hk : k < 2 ^ 31) (e : nI w = f (nI k).toNatClampNeg) : nI po * 10 + f k = nI (10 * po + w) := by
  rw [nI_clamp hk] at e
  rw [← e, show (10 : Int32) = nI 10 from rfl, pk_mul, nI_add, Nat.mul_comm]
theorem bgM_le {t f : Int32} (c : t ≤ f) : mxI t f = f := by
  unfold mxI
  by_cases h : t < f
  · rw [if_pos h]
  · rw [if_neg h]
    exact (ii_eq _ _).mpr (by rw [ii_le] at c; rw [ii_lt] at h; omega)
theorem bgM_gt {t f : Int32} (c : ¬ t ≤ f) : mxI t f = t := by
  unfold mxI
  rw [if_neg (fun h => c (by rw [ii_le]; rw [ii_lt] at h; omega))]
theorem mx_dn {t f : Int32} (h : inR f 0 999 = true) : ¬ mxI t f = -1 := by
  intro q
  have h4 := inR_b h (a := 0) (by decide) (b := 999) (by decide)
  have m := mxI_r t f
  rw [q] at m
  have e : (-1 : Int32).toInt = -1 := by decide
  omega
