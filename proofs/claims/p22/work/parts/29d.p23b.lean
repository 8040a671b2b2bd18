/-- the reference's search: nodes (set, place, day, cost, row) -/
abbrev VN : Type := Nat → Int32 → Int32 → Int32 → List Nat → Prop
def CloN (D : DT) (n : Nat) (V : VN) (S : Nat) (pt da pd : Int32) (l : List Nat) : Prop := ∀ k : Nat, k < n → Nat.testBit S k = false → (¬ stD D k pt da = -1) → ∃ p : Int32, V (S ||| (1 <<< k)) (D.2.1 k) (stD D k pt da + D.2.2.1 k) p (k :: l) ∧ p.toInt = pd.toInt + (faD D k pt).toInt
theorem CloN_up {D : DT} {n : Nat} {V V' : VN} (hV : ∀ S pt da p l, V S pt da p l → V' S pt da p l) {S : Nat} {pt da pd : Int32} {l : List Nat} (h : CloN D n V S pt da pd l) : CloN D n V' S pt da pd l := fun k hk hb hs => by
  obtain ⟨p, a, b⟩ := h k hk hb hs
  exact ⟨p, hV _ _ _ _ _ a, b⟩
def VpN (V : VN) (S : Nat) (pt da p : Int32) (l : List Nat) : VN := fun S' p' t' q' l' => V S' p' t' q' l' ∨ (S' = S ∧ p' = pt ∧ t' = da ∧ q' = p ∧ l' = l)
def QN (D : DT) (n : Nat) (pr dr : Int32) (cr : Nat) (b1 b2 : Nat → Int32) (V : VN) (c1 c2 : Nat → Int32) : Prop :=
  (∀ j : Nat, (j < 128 * cr ∨ 128 * cr + 128 ≤ j) → c1 j = b1 j ∧ c2 j = b2 j) ∧
  (∀ S pt da p l, V S pt da p l → S < 128 ∧ 0 ≤ p.toInt ∧ FeL D n pr dr l S pt da p.toInt) ∧
  (∀ S : Nat, 0 < S → S < 128 → (c1 (128 * cr + S) = -1 ∧ ∀ pt da p l, ¬ V S pt da p l) ∨ (∃ (pt da : Int32) (l : List Nat), V S pt da (c1 (128 * cr + S)) l ∧ c2 (128 * cr + S) = nI (rowM l) ∧ ∀ pt' da' p' l', V S pt' da' p' l' → (c1 (128 * cr + S)).toInt < p'.toInt ∨ ((c1 (128 * cr + S)).toInt = p'.toInt ∧ rowM l ≤ rowM l'))) ∧
  c1 (128 * cr) = 0
theorem QN_new {D : DT} {n : Nat} {pr dr : Int32} {cr : Nat} {c1 c2 : Nat → Int32} (h1 : ∀ S : Nat, 0 < S → S < 128 → c1 (128 * cr + S) = -1) (h0 : c1 (128 * cr) = 0) : QN D n pr dr cr c1 c2 (fun _ _ _ _ _ => False) c1 c2 := ⟨fun _ _ => ⟨rfl, rfl⟩, fun S pt da p l h => False.elim h, fun S h0 h => Or.inl ⟨h1 S h0 h, fun _ _ _ _ q => q⟩, h0⟩
/-- what tries does with its own row -/
def UpN (c1 c2 c1' c2' : Nat → Int32) (ax : Nat) (p : Int32) (ro : Nat) : Prop := (c1' = c1 ∧ c2' = c2 ∧ (¬ c1 ax = -1) ∧ (¬ p < c1 ax) ∧ ¬ (p = c1 ax ∧ nI ro < c2 ax)) ∨ (c1' = upd c1 ax p ∧ c2' = upd c2 ax (nI ro) ∧ (c1 ax = -1 ∨ p < c1 ax ∨ (p = c1 ax ∧ nI ro < c2 ax)))
theorem QN_step {D : DT} {n : Nat} (hn : n ≤ 7) {pr dr : Int32} {cr : Nat} {V : VN} {b1 b2 c1 c2 c1' c2' : Nat → Int32} (hQ : QN D n pr dr cr b1 b2 V c1 c2) {S : Nat} {pt da p : Int32} {l : List Nat} (hS : S < 128) (hp0 : 0 ≤ p.toInt) (hF : FeL D n pr dr l S pt da p.toInt) (h1 : UpN c1 c2 c1' c2' (128 * cr + S) p (rowM l)) : QN D n pr dr cr b1 b2 (VpN V S pt da p l) c1' c2' := by
  obtain ⟨q0, q1, q2, q4⟩ := hQ
  have same : ∀ j : Nat, j ≠ 128 * cr + S → c1' j = c1 j ∧ c2' j = c2 j := by
    intro j hj
    rcases h1 with ⟨rfl, rfl, -⟩ | ⟨rfl, rfl, -⟩
    · exact ⟨rfl, rfl⟩
    · exact ⟨pk_un hj, pk_un hj⟩
  have rl := (FeL_row hn hF).2
  refine ⟨fun j hj => ?_, ?_, ?_, ?_⟩
  · obtain ⟨s1, s2⟩ := same j (by omega)
    rw [s1, s2]
    exact q0 j hj
  · intro T p2 t2 w2 l2 hV
    rcases hV with hV | ⟨rfl, rfl, rfl, rfl, rfl⟩
    · exact q1 T p2 t2 w2 l2 hV
    · exact ⟨hS, hp0, hF⟩
  · intro T hT0 hT
    by_cases e : T = S
    · rw [e]
      rw [e] at hT0 hT
      refine Or.inr ?_
      rcases h1 with ⟨rfl, rfl, n1, n2, n3⟩ | ⟨rfl, rfl, n1⟩
      · obtain ⟨x, -⟩ | ⟨p0, t0, l0, a, b, c⟩ := q2 S hT0 hT
        · exact absurd x n1
        · refine ⟨p0, t0, l0, Or.inl a, b, fun pt' da' p' l' hV => ?_⟩
          rcases hV with hV | ⟨-, rfl, rfl, rfl, rfl⟩
          · exact c pt' da' p' l' hV
          · have r0 := (FeL_row hn (q1 _ _ _ _ _ a).2.2).2
            rw [ii_lt] at n2
            by_cases q : p'.toInt = (c1' (128 * cr + S)).toInt
            · refine Or.inr ⟨q.symm, ?_⟩
              rcases Nat.lt_or_ge (rowM l') (rowM l0) with r | r
              · exact absurd ⟨(ii_eq _ _).mpr q, by rw [b]; exact Int32.not_le.mp (fun q2 => by have := (nI_leI (by omega) (by omega)).mp q2; omega)⟩ n3
              · exact r
            · exact Or.inl (by omega)
      · refine ⟨pt, da, l, ?_, by rw [pk_us], fun pt' da' p' l' hV => ?_⟩
        · rw [pk_us]
          exact Or.inr ⟨rfl, rfl, rfl, rfl, rfl⟩
        · rw [pk_us]
          rcases hV with hV | ⟨-, rfl, rfl, rfl, rfl⟩
          · obtain ⟨-, x⟩ | ⟨p0, t0, l0, a, b, c⟩ := q2 S hT0 hT
            · exact absurd hV (x pt' da' p' l')
            · have c2 := c pt' da' p' l' hV
              rcases n1 with n1 | n1 | ⟨n1, n2⟩
              · have p0 := (q1 _ _ _ _ _ a).2.1
                rw [n1] at p0
                exact absurd p0 (by decide)
              · rw [ii_lt] at n1
                omega
              · rw [b] at n2
                have r0 := (FeL_row hn (q1 _ _ _ _ _ a).2.2).2
                have r1 := nI_ltE (by omega) (by omega) n2
                have r2 : p.toInt = (c1 (128 * cr + S)).toInt := by rw [← n1]
                omega
          · exact Or.inr ⟨rfl, Nat.le_refl _⟩
    · obtain ⟨s1, s2⟩ := same (128 * cr + T) (by omega)
      rw [s1, s2]
      rcases q2 T hT0 hT with ⟨x, y⟩ | ⟨k0, f0, l0, a, b, c⟩
      · refine Or.inl ⟨x, fun k' f' p' l' hV => ?_⟩
        rcases hV with hV | ⟨e2, -⟩
        · exact y k' f' p' l' hV
        · exact e e2
      · refine Or.inr ⟨k0, f0, l0, Or.inl a, b, fun k' f' p' l' hV => ?_⟩
        rcases hV with hV | ⟨e2, -⟩
        · exact c k' f' p' l' hV
        · exact absurd e2 e
  · by_cases e : S = 0
    · subst e
      have hl : l = [] := List.eq_nil_of_length_eq_zero ((FeL_S hn l 0 pt da _ hF).2.2.1.symm.trans (by decide))
      subst hl
      obtain ⟨-, -, -, z⟩ := hF
      rcases h1 with ⟨rfl, -, -⟩ | ⟨rfl, -, -⟩
      · exact q4
      · rw [Nat.add_zero, pk_us]
        exact (ii_eq _ _).mpr (by rw [z]; decide)
    · rw [(same (128 * cr) (by omega)).1]
      exact q4
/-- what tries leaves behind -/
def TrN (D : DT) (n : Nat) (pr dr : Int32) (cr : Nat) (b1 b2 : Nat → Int32) (V : VN) (c1 c2 : Nat → Int32) (S : Nat) (pt da pd : Int32) (rl : List Nat) : Prop :=
  ∃ V2 : VN, (∀ T p t w l, V T p t w l → V2 T p t w l) ∧ QN D n pr dr cr b1 b2 V2 c1 c2 ∧ (∀ T p t w l, V2 T p t w l → V T p t w l ∨ CloN D n V2 T p t w l) ∧ V2 S pt da pd rl ∧ CloN D n V2 S pt da pd rl
/-- its loop -/
def TiN (D : DT) (n : Nat) (pr dr : Int32) (cr : Nat) (b1 b2 : Nat → Int32) (V0 V : VN) (c1 c2 : Nat → Int32) (S : Nat) (pt da pd : Int32) (rl : List Nat) (k : Nat) : Prop :=
  (∀ T p t w l, V0 T p t w l → V T p t w l) ∧ QN D n pr dr cr b1 b2 V c1 c2 ∧ (∀ T p t w l, V T p t w l → V0 T p t w l ∨ (T = S ∧ p = pt ∧ t = da ∧ w = pd ∧ l = rl) ∨ CloN D n V T p t w l) ∧ V S pt da pd rl ∧
  (∀ j : Nat, j < k → j < n → Nat.testBit S j = false → (¬ stD D j pt da = -1) → ∃ p : Int32, V (S ||| (1 <<< j)) (D.2.1 j) (stD D j pt da + D.2.2.1 j) p (j :: rl) ∧ p.toInt = pd.toInt + (faD D j pt).toInt)
section
variable {D : DT} {n : Nat} {pr dr : Int32} {cr : Nat} {V0 V : VN} {b1 b2 c1 c2 c1' c2' : Nat → Int32} {S : Nat} {pt da pd : Int32} {rl : List Nat} {k : Nat}
theorem TiN_0 (hn : n ≤ 7) (hQ : QN D n pr dr cr b1 b2 V c1 c2) (hS : S < 128) (hp0 : 0 ≤ pd.toInt) (hF : FeL D n pr dr rl S pt da pd.toInt) (h1 : UpN c1 c2 c1' c2' (128 * cr + S) pd (rowM rl)) : TiN D n pr dr cr b1 b2 V (VpN V S pt da pd rl) c1' c2' S pt da pd rl 0 :=
  ⟨fun _ _ _ _ _ h => Or.inl h, QN_step hn hQ hS hp0 hF h1, fun _ _ _ _ _ h => h.elim Or.inl (fun e => Or.inr (Or.inl e)), Or.inr ⟨rfl, rfl, rfl, rfl, rfl⟩, fun j hj => absurd hj (Nat.not_lt_zero _)⟩
theorem TiN_end (h : TiN D n pr dr cr b1 b2 V0 V c1 c2 S pt da pd rl k) (hk : n ≤ k) : TrN D n pr dr cr b1 b2 V0 c1 c2 S pt da pd rl := by
  have hc : CloN D n V S pt da pd rl := fun j hj => h.2.2.2.2 j (by omega) hj
  refine ⟨V, h.1, h.2.1, fun T p t w l q => ?_, h.2.2.2.1, hc⟩
  rcases h.2.2.1 T p t w l q with q | ⟨rfl, rfl, rfl, rfl, rfl⟩ | q
  · exact Or.inl q
  · exact Or.inr hc
  · exact Or.inr q
theorem TiN_next (h : TiN D n pr dr cr b1 b2 V0 V c1 c2 S pt da pd rl k) (hk : k < n → Nat.testBit S k = false → (¬ stD D k pt da = -1) → ∃ p : Int32, V (S ||| (1 <<< k)) (D.2.1 k) (stD D k pt da + D.2.2.1 k) p (k :: rl) ∧ p.toInt = pd.toInt + (faD D k pt).toInt) : TiN D n pr dr cr b1 b2 V0 V c1 c2 S pt da pd rl (k + 1) := by
  refine ⟨h.1, h.2.1, h.2.2.1, h.2.2.2.1, fun j hj hn hb hs => ?_⟩
  by_cases e : j = k
  · subst e; exact hk hn hb hs
  · exact h.2.2.2.2 j (by omega) hn hb hs
theorem TiN_bit (h : TiN D n pr dr cr b1 b2 V0 V c1 c2 S pt da pd rl k) (hb : Nat.testBit S k = true) : TiN D n pr dr cr b1 b2 V0 V c1 c2 S pt da pd rl (k + 1) := TiN_next h (fun _ q => by rw [hb] at q; cases q)
theorem TiN_no (h : TiN D n pr dr cr b1 b2 V0 V c1 c2 S pt da pd rl k) (hs : stD D k pt da = -1) : TiN D n pr dr cr b1 b2 V0 V c1 c2 S pt da pd rl (k + 1) := TiN_next h (fun _ _ q => absurd hs q)
theorem TiN_vis (h : TiN D n pr dr cr b1 b2 V0 V c1 c2 S pt da pd rl k) {w : Nat} (ew : w = S ||| (1 <<< k)) {fr qd : Int32} (hfr : fr = stD D k pt da + D.2.2.1 k) (hqd : qd.toInt = pd.toInt + (faD D k pt).toInt) (hX : TrN D n pr dr cr b1 b2 V c1' c2' w (D.2.1 k) fr qd (k :: rl)) : ∃ V' : VN, TiN D n pr dr cr b1 b2 V0 V' c1' c2' S pt da pd rl (k + 1) := by
  obtain ⟨V2, u1, u2, u3, u4, u5⟩ := hX
  refine ⟨V2, fun T p t w l q => u1 T p t w l (h.1 T p t w l q), u2, fun T p t w l q => ?_, u1 _ _ _ _ _ h.2.2.2.1, fun j hj hn hb hs => ?_⟩
  · rcases u3 T p t w l q with q | q
    · rcases h.2.2.1 T p t w l q with q | q | q
      · exact Or.inl q
      · exact Or.inr (Or.inl q)
      · exact Or.inr (Or.inr (CloN_up u1 q))
    · exact Or.inr (Or.inr q)
  · by_cases e : j = k
    · subst e
      rw [← ew, ← hfr]
      exact ⟨qd, u4, hqd⟩
    · obtain ⟨p, a, b⟩ := h.2.2.2.2 j (by omega) hn hb hs
      exact ⟨p, u1 _ _ _ _ _ a, b⟩
end
theorem feN_all {D : DT} {n : Nat} {pr dr : Int32} {V : VN} (hr : V 0 pr dr 0 []) (hc : ∀ S pt da p l, V S pt da p l → CloN D n V S pt da p l) : ∀ (l : List Nat) (S : Nat) (pt da : Int32) (co : Int), FeL D n pr dr l S pt da co → ∃ p : Int32, p.toInt = co ∧ V S pt da p l := by
  intro l
  induction l with
  | nil =>
    intro S pt da co hF
    obtain ⟨rfl, rfl, rfl, rfl⟩ := hF
    exact ⟨0, by decide, hr⟩
  | cons k l ih =>
    intro S pt da co hF
    obtain ⟨S0, p0, t0, c0, hF0, hk, hb, hs, rfl, rfl, rfl, rfl⟩ := hF
    obtain ⟨p, e, hV⟩ := ih S0 p0 t0 c0 hF0
    obtain ⟨q, a, b⟩ := hc _ _ _ _ _ hV k hk hb hs
    exact ⟨q, by omega, a⟩
/-- what the reference's search finds -/
def SrN (D : DT) (n : Nat) (pr dr : Int32) (cr : Nat) (c1 c2 : Nat → Int32) : Prop := ∀ S : Nat, 0 < S → S < 128 → (c1 (128 * cr + S) = -1 ∧ ∀ l pt da co, ¬ FeL D n pr dr l S pt da co) ∨ (0 ≤ (c1 (128 * cr + S)).toInt ∧ ∃ l, BsP D n pr dr S (c1 (128 * cr + S)).toInt l ∧ c2 (128 * cr + S) = nI (rowM l))
theorem SrN_of {D : DT} {n : Nat} (hn : n ≤ 7) {pr dr : Int32} {cr : Nat} {b1 b2 c1 c2 : Nat → Int32} (hX : TrN D n pr dr cr b1 b2 (fun _ _ _ _ _ => False) c1 c2 0 pr dr 0 []) : SrN D n pr dr cr c1 c2 ∧ (∀ j : Nat, (j < 128 * cr ∨ 128 * cr + 128 ≤ j) → c1 j = b1 j ∧ c2 j = b2 j) ∧ c1 (128 * cr) = 0 := by
  obtain ⟨V, -, q, u3, u4, u5⟩ := hX
  have hc : ∀ S pt da p l, V S pt da p l → CloN D n V S pt da p l := fun S pt da p l hV => (u3 S pt da p l hV).resolve_left (fun e => e)
  refine ⟨fun S h0 hS => ?_, q.1, q.2.2.2⟩
  rcases q.2.2.1 S h0 hS with ⟨x, y⟩ | ⟨pt, da, l, a, b, c⟩
  · refine Or.inl ⟨x, fun l pt da co hF => ?_⟩
    obtain ⟨p, -, hV⟩ := feN_all u4 hc l S pt da co hF
    exact y pt da p l hV
  · have g := q.2.1 S pt da _ l a
    refine Or.inr ⟨g.2.1, l, ⟨⟨pt, da, g.2.2⟩, fun l' pt' da' co' hF => ?_⟩, b⟩
    obtain ⟨p, e, hV⟩ := feN_all u4 hc l' S pt' da' co' hF
    have r := c pt' da' p l' hV
    have s1 := (FeL_S hn l S pt da _ g.2.2).2.2.1
    have s2 := (FeL_S hn l' S pt' da' co' hF).2.2.1
    rw [row_CM l, row_CM l', ← s1, ← s2]
    omega
section
variable {D : DT} {n : Nat} {d6 d7 : Nat → Int32} {i q : Nat} {co : Int} {l : List Nat}
/-- the same of the reference's -/
theorem SrN_F (hn : n ≤ 7) (hd : ¬ d6 i = -1) {c1 c2 : Nat → Int32} (h : SrN D n (d6 i) (d7 i) i c1 c2) : ∀ q : Nat, 0 < q → q < 128 → ((¬ c1 (128 * i + q) = -1) ↔ Fq D n d6 d7 i q) ∧ ((¬ c1 (128 * i + q) = -1) → (c1 (128 * i + q)).toInt = Cq D n d6 d7 i q) := by
  intro q h0 hq
  rcases h q h0 hq with ⟨a, b⟩ | ⟨a, l, b, -⟩
  · refine ⟨⟨fun k => absurd a k, fun ⟨co, l, k⟩ => ?_⟩, fun k => absurd a k⟩
    rcases k with ⟨e, -⟩ | ⟨-, -, ⟨pt, da, hF⟩, -⟩
    · omega
    · exact absurd hF (b l pt da co)
  · have k : KL D n d6 d7 i q (c1 (128 * i + q)).toInt l := Or.inr ⟨h0, hd, b⟩
    have ne : ¬ c1 (128 * i + q) = -1 := fun e => by
      rw [e] at a
      exact absurd a (by decide)
    exact ⟨⟨fun _ => ⟨_, l, k⟩, fun _ => ne⟩, fun _ => (Cq_eq hn k).symm⟩
theorem SrN_row (hn : n ≤ 7) {c1 c2 : Nat → Int32} (h : (¬ d6 i = -1) → SrN D n (d6 i) (d7 i) i c1 c2) (h0 : 0 < q) (hq : q < 128) (k : KL D n d6 d7 i q co l) : c2 (128 * i + q) = nI (rowM l) := by
  rcases k with ⟨e, -⟩ | ⟨-, hd, hb⟩
  · omega
  · rcases h hd q h0 hq with ⟨-, b⟩ | ⟨-, l', b, c⟩
    · obtain ⟨⟨pt, da, hF⟩, -⟩ := hb
      exact absurd hF (b l pt da co)
    · rw [c, (BsP_uniq hn b hb).2]
end
