/-- what it costs someone at pt to come to where delivery k begins -/
def faD (D : DT) (k : Nat) (pt : Int32) : Int32 := D.2.2.2.2.2 (pt * 10 + D.1 k).toNatClampNeg
/-- a row of deliveries, the last one first: set, place, day and cost that it leads to -/
def FeL (D : DT) (n : Nat) (pr dr : Int32) : List Nat → Nat → Int32 → Int32 → Int → Prop
  | [], S, pt, da, co => S = 0 ∧ pt = pr ∧ da = dr ∧ co = 0
  | k :: l, S, pt, da, co => ∃ (S0 : Nat) (p0 t0 : Int32) (c0 : Int), FeL D n pr dr l S0 p0 t0 c0 ∧ k < n ∧ Nat.testBit S0 k = false ∧ (¬ stD D k p0 t0 = -1) ∧ S = S0 ||| (1 <<< k) ∧ pt = D.2.1 k ∧ da = stD D k p0 t0 + D.2.2.1 k ∧ co = c0 + (faD D k p0).toInt
theorem FeL_root (D : DT) (n : Nat) (pr dr : Int32) : FeL D n pr dr [] 0 pr dr 0 := ⟨rfl, rfl, rfl, rfl⟩
theorem FeL_step {D : DT} {n : Nat} {pr dr : Int32} {l : List Nat} {S : Nat} {pt da : Int32} {co co2 : Int} (h : FeL D n pr dr l S pt da co) {k : Nat} (hk : k < n) (hb : Nat.testBit S k = false) (hs : ¬ stD D k pt da = -1) (hc : co2 = co + (faD D k pt).toInt) : FeL D n pr dr (k :: l) (S ||| (1 <<< k)) (D.2.1 k) (stD D k pt da + D.2.2.1 k) co2 := ⟨S, pt, da, co, h, hk, hb, hs, rfl, rfl, rfl, hc⟩
/-- the row as the class's number and as the reference's -/
def rowC : List Nat → Nat
  | [] => 0
  | k :: l => rowC l * 8 + (k + 1)
def rowM : List Nat → Nat
  | [] => 0
  | k :: l => 8 * rowM l + k
def repN : Nat → Nat
  | 0 => 0
  | j + 1 => 8 * repN j + 1
theorem row_CM : ∀ l : List Nat, rowC l = rowM l + repN l.length
  | [] => rfl
  | k :: l => by
    show rowC l * 8 + (k + 1) = 8 * rowM l + k + (8 * repN l.length + 1)
    rw [row_CM l]
    omega
theorem rowC_inj : ∀ l l' : List Nat, l.length = l'.length → (∀ k ∈ l, k < 7) → (∀ k ∈ l', k < 7) → rowC l = rowC l' → l = l'
  | [], [], _, _, _, _ => rfl
  | [], _ :: _, h, _, _, _ => by simp at h
  | _ :: _, [], h, _, _, _ => by simp at h
  | k :: l, k' :: l', h, a, b, e => by
    have e2 : rowC l * 8 + (k + 1) = rowC l' * 8 + (k' + 1) := e
    have hk := a k (List.mem_cons_self ..)
    have hk' := b k' (List.mem_cons_self ..)
    have e3 : k = k' := by omega
    have e4 : rowC l = rowC l' := by omega
    have hl : l.length = l'.length := Nat.succ.inj h
    rw [e3, rowC_inj l l' hl (fun x hx => a x (List.mem_cons_of_mem _ hx)) (fun x hx => b x (List.mem_cons_of_mem _ hx)) e4]
theorem rowC_lt : ∀ l : List Nat, (∀ k ∈ l, k < 7) → rowC l < 8 ^ l.length
  | [], _ => by decide
  | k :: l, a => by
    have h := rowC_lt l (fun x hx => a x (List.mem_cons_of_mem _ hx))
    have hk := a k (List.mem_cons_self ..)
    show rowC l * 8 + (k + 1) < 8 ^ (l.length + 1)
    rw [Nat.pow_succ]
    omega
theorem FeL_S {D : DT} {n : Nat} (hn : n ≤ 7) {pr dr : Int32} : ∀ (l : List Nat) (S : Nat) (pt da : Int32) (co : Int), FeL D n pr dr l S pt da co → S < 128 ∧ S < 2 ^ n ∧ pc7 S = l.length ∧ ∀ k ∈ l, k < n := by
  intro l
  induction l with
  | nil =>
    intro S pt da co h
    obtain ⟨rfl, -, -, -⟩ := h
    exact ⟨by decide, Nat.pow_pos (by decide), by decide, fun k hk => by cases hk⟩
  | cons k l ih =>
    intro S pt da co h
    obtain ⟨S0, p0, t0, c0, h0, hk, hb, -, rfl, -, -, -⟩ := h
    obtain ⟨a, a2, b, c⟩ := ih S0 p0 t0 c0 h0
    refine ⟨(or_e S0 a k (by omega)).1, ?_, by rw [pc7_or S0 a k (by omega) hb, b]; rfl, fun x hx => ?_⟩
    · refine Nat.or_lt_two_pow a2 ?_
      rw [Nat.one_shiftLeft]
      exact Nat.pow_lt_pow_right (by decide) hk
    · rcases List.mem_cons.mp hx with q | q
      · rw [q]; exact hk
      · exact c x q
theorem FeL_pos {D : DT} {n : Nat} (hn : n ≤ 7) {pr dr : Int32} {l : List Nat} {S : Nat} {pt da : Int32} {co : Int} (h : FeL D n pr dr l S pt da co) (hS : 0 < S) : ∃ k l0, l = k :: l0 := by
  cases l with
  | nil =>
    obtain ⟨e, -⟩ := h
    omega
  | cons k l0 => exact ⟨k, l0, rfl⟩
/-- the places that a row leads to are ports -/
theorem FeL_pt {D : DT} (hok : okD D) {n : Nat} (hn : n ≤ 7) {pr dr : Int32} (hpr : inR pr 0 9 = true) {l : List Nat} {S : Nat} {pt da : Int32} {co : Int} (h : FeL D n pr dr l S pt da co) : inR pt 0 9 = true := by
  cases l with
  | nil =>
    obtain ⟨-, e, -⟩ := h
    rw [e]; exact hpr
  | cons k l0 =>
    obtain ⟨S0, p0, t0, c0, h0, hk, hb, hs, -, e, -⟩ := h
    rw [e]; exact (hok k (by omega)).2.1
theorem faD_bd {D : DT} (hok : okD D) (h8 : ∀ j : Nat, j < 100 → inR (D.2.2.2.2.2 j) (-1) 10000 = true) {k : Nat} (hk : k < 7) {pt da : Int32} (hp : inR pt 0 9 = true) (hs : ¬ stD D k pt da = -1) : 0 ≤ (faD D k pt).toInt ∧ (faD D k pt).toInt ≤ 10000 := by
  have hi : (pt * 10 + D.1 k).toNatClampNeg < 100 := vinC (ixA hp (a := 9) (by decide) (hok k hk).1 (b := 9) (by decide) (M := 10) (K := 100) rfl (by decide) (by decide))
  have f := inR_b (h8 _ hi) (a := -1) (by decide) (b := 10000) (by decide)
  have g : (faD D k pt).toInt ≠ -1 := fun q => (stD_inv hs).1 ((ii_eq _ _).mpr (by rw [show (-1 : Int32).toInt = -1 by decide]; exact q))
  have e : (faD D k pt).toInt = (D.2.2.2.2.2 (pt * 10 + D.1 k).toNatClampNeg).toInt := rfl
  omega
theorem FeL_co {D : DT} (hok : okD D) (h8 : ∀ j : Nat, j < 100 → inR (D.2.2.2.2.2 j) (-1) 10000 = true) {n : Nat} (hn : n ≤ 7) {pr dr : Int32} (hpr : inR pr 0 9 = true) : ∀ (l : List Nat) (S : Nat) (pt da : Int32) (co : Int), FeL D n pr dr l S pt da co → 0 ≤ co ∧ co ≤ 10000 * (l.length : Int) := by
  intro l
  induction l with
  | nil =>
    intro S pt da co h
    obtain ⟨-, -, -, rfl⟩ := h
    exact ⟨by decide, by decide⟩
  | cons k l ih =>
    intro S pt da co h
    obtain ⟨S0, p0, t0, c0, h0, hk, hb, hs, -, -, -, rfl⟩ := h
    obtain ⟨a, b⟩ := ih S0 p0 t0 c0 h0
    have f := faD_bd hok h8 (k := k) (by omega) (FeL_pt hok hn hpr h0) hs
    have e : ((k :: l).length : Int) = (l.length : Int) + 1 := by
      rw [List.length_cons]
      omega
    rw [e]
    omega
/-- of all rows that do S the cheapest, and of those the least -/
def BsP (D : DT) (n : Nat) (pr dr : Int32) (S : Nat) (co : Int) (l : List Nat) : Prop := (∃ pt da, FeL D n pr dr l S pt da co) ∧ ∀ (l' : List Nat) (pt da : Int32) (co' : Int), FeL D n pr dr l' S pt da co' → co < co' ∨ (co = co' ∧ rowC l ≤ rowC l')
theorem BsP_uniq {D : DT} {n : Nat} (hn : n ≤ 7) {pr dr : Int32} {S : Nat} {co co' : Int} {l l' : List Nat} (h : BsP D n pr dr S co l) (h' : BsP D n pr dr S co' l') : co = co' ∧ l = l' := by
  obtain ⟨⟨pt, da, a⟩, b⟩ := h
  obtain ⟨⟨pt', da', a'⟩, b'⟩ := h'
  have x := b l' pt' da' co' a'
  have y := b' l pt da co a
  have ec : co = co' := by
    rcases x with x | x <;> rcases y with y | y <;> omega
  have er : rowC l = rowC l' := by
    rcases x with x | x <;> rcases y with y | y <;> omega
  obtain ⟨-, -, s1, s2⟩ := FeL_S hn l S pt da co a
  obtain ⟨-, -, s1', s2'⟩ := FeL_S hn l' S pt' da' co' a'
  exact ⟨ec, rowC_inj l l' (s1.symm.trans s1') (fun k hk => Nat.lt_of_lt_of_le (s2 k hk) hn) (fun k hk => Nat.lt_of_lt_of_le (s2' k hk) hn) er⟩
/-- where the class's nodes stand in the order of rows -/
def exS (S : Nat) : Nat := 8 ^ (7 - pc7 S)
theorem exS_or : ∀ s : Nat, s < 128 → ∀ k : Nat, k < 7 → Nat.testBit s k = false → exS s = 8 * exS (s ||| (1 <<< k)) := by decide +kernel
theorem exS_pos (S : Nat) : 0 < exS S := Nat.pow_pos (by decide)
abbrev VL : Type := Nat → Nat → Int32 → Int32 → List Nat → Prop
def VpL (V : VL) (S k : Nat) (f p : Int32) (l : List Nat) : VL := fun S' k' f' p' l' => V S' k' f' p' l' ∨ (S' = S ∧ k' = k ∧ f' = f ∧ p' = p ∧ l' = l)
/-- every delivery that can be begun behind this node is come to, no later, no dearer, by no larger row -/
def CloL (D : DT) (n : Nat) (V : VL) (S : Nat) (pt da pd : Int32) (l : List Nat) : Prop := ∀ k : Nat, k < n → Nat.testBit S k = false → (¬ stD D k pt da = -1) → ∃ (f p : Int32) (l' : List Nat), V (S ||| (1 <<< k)) k f p l' ∧ f.toInt ≤ (stD D k pt da + D.2.2.1 k).toInt ∧ p.toInt ≤ pd.toInt + (faD D k pt).toInt ∧ rowC l' ≤ rowC l * 8 + (k + 1)
theorem CloL_up {D : DT} {n : Nat} {V V' : VL} (hV : ∀ S k f p l, V S k f p l → V' S k f p l) {S : Nat} {pt da pd : Int32} {l : List Nat} (h : CloL D n V S pt da pd l) : CloL D n V' S pt da pd l := fun k hk hb hs => by
  obtain ⟨f, p, l', h1, h2⟩ := h k hk hb hs
  exact ⟨f, p, l', hV _ _ _ _ _ h1, h2⟩
theorem fe_allL {D : DT} (h : okD D) {n : Nat} (hn : n ≤ 7) {pr dr : Int32} (hd0 : 0 ≤ dr.toInt) (hd1 : dr.toInt ≤ 999) {V : VL} (hr : CloL D n V 0 pr dr 0 []) (hc : ∀ S k f p l, V S k f p l → 0 ≤ f.toInt ∧ CloL D n V S (D.2.1 k) f p l) :
    ∀ (l : List Nat) (k S : Nat) (pt da : Int32) (co : Int), FeL D n pr dr (k :: l) S pt da co → 0 ≤ da.toInt ∧ da.toInt ≤ 1199 ∧ pt = D.2.1 k ∧ ∃ (f p : Int32) (l' : List Nat), V S k f p l' ∧ f.toInt ≤ da.toInt ∧ p.toInt ≤ co ∧ rowC l' ≤ rowC (k :: l) := by
  intro l
  induction l with
  | nil =>
    intro k S pt da co hF
    obtain ⟨S0, p0, t0, c0, ⟨rfl, rfl, rfl, rfl⟩, hk, hb, hs, rfl, rfl, rfl, rfl⟩ := hF
    obtain ⟨f, p, l', h1, h2, h3, h4⟩ := hr k hk hb hs
    obtain ⟨-, b0, b1⟩ := frD h (k := k) (by omega) hs
    have z : (0 : Int32).toInt = 0 := by decide
    exact ⟨b0, b1, rfl, f, p, l', h1, h2, by omega, h4⟩
  | cons k0 l ih =>
    intro k S pt da co hF
    obtain ⟨S0, p0, t0, c0, hF0, hk, hb, hs, rfl, rfl, rfl, rfl⟩ := hF
    obtain ⟨t0a, t0b, rfl, f0, q0, l0, hV0, hf0, hq0, hr0⟩ := ih k0 S0 p0 t0 c0 hF0
    obtain ⟨f0a, hC0⟩ := hc _ _ _ _ _ hV0
    obtain ⟨m1, m2⟩ := stD_mono h (k := k) (by omega) f0a (by omega) hf0 hs
    obtain ⟨f, p, l', g1, g2, g3, g4⟩ := hC0 k hk hb m1
    obtain ⟨e1, b0, b1⟩ := frD h (k := k) (by omega) hs
    obtain ⟨e2, -, -⟩ := frD h (k := k) (by omega) m1
    refine ⟨b0, b1, rfl, f, p, l', g1, by omega, by omega, ?_⟩
    show rowC l' ≤ rowC (k0 :: l) * 8 + (k + 1)
    omega
/-- what the search's rows say of the nodes that were come to -/
def QL (D : DT) (n : Nat) (pr dr : Int32) (cr : Nat) (b1 b2 : Nat → Int32) (V : VL) (c1 c2 c3 c4 : Nat → Int32) : Prop :=
  (∀ j : Nat, (j < cr * 128 ∨ cr * 128 + 128 ≤ j) → c1 j = b1 j ∧ c2 j = b2 j) ∧
  (∀ S k f p l, V S k f p l → S < 128 ∧ 0 < S ∧ k < 7 ∧ 0 ≤ f.toInt ∧ f.toInt ≤ 1199 ∧ 0 ≤ p.toInt ∧ FeL D n pr dr l S (D.2.1 k) f p.toInt) ∧
  (∀ S : Nat, 0 < S → S < 128 → (c1 (cr * 128 + S) = -1 ∧ ∀ k f p l, ¬ V S k f p l) ∨ (∃ (k : Nat) (f : Int32) (l : List Nat), V S k f (c1 (cr * 128 + S)) l ∧ c2 (cr * 128 + S) = nI (rowC l) ∧ ∀ k' f' p' l', V S k' f' p' l' → (c1 (cr * 128 + S)).toInt < p'.toInt ∨ ((c1 (cr * 128 + S)).toInt = p'.toInt ∧ rowC l ≤ rowC l'))) ∧
  (∀ S k : Nat, S < 128 → k < 7 → c3 (S * 7 + k) = 1073741824 ∨ ∃ l, V S k (c3 (S * 7 + k)) (c4 (S * 7 + k)) l)
theorem QL_new {D : DT} {n : Nat} {pr dr : Int32} {cr : Nat} {c1 c2 c3 c4 : Nat → Int32} (h1 : ∀ S : Nat, S < 128 → c1 (cr * 128 + S) = -1) (h3 : ∀ j : Nat, j < 896 → c3 j = 1073741824) : QL D n pr dr cr c1 c2 (fun _ _ _ _ _ => False) c1 c2 c3 c4 :=
  ⟨fun j _ => ⟨rfl, rfl⟩, fun S k f p l h => False.elim h, fun S _ h => Or.inl ⟨h1 S h, fun _ _ _ _ q => q⟩, fun S k hS hk => Or.inl (h3 _ (by omega))⟩
theorem QL_step {D : DT} {n : Nat} {pr dr : Int32} {cr : Nat} {b1 b2 : Nat → Int32} {V : VL} {c1 c2 c3 c4 c1' c2' c3' c4' : Nat → Int32} (hQ : QL D n pr dr cr b1 b2 V c1 c2 c3 c4) {S k : Nat} {f p : Int32} {l : List Nat} (hS : S < 128) (h0 : 0 < S) (hk : k < 7) (hf0 : 0 ≤ f.toInt) (hf1 : f.toInt ≤ 1199) (hp0 : 0 ≤ p.toInt) (hF : FeL D n pr dr l S (D.2.1 k) f p.toInt)
    (hord : ∀ k' f' p' l', V S k' f' p' l' → rowC l' < rowC l)
    (h3 : (c3' = c3 ∧ c4' = c4) ∨ (c3' = upd c3 (S * 7 + k) f ∧ c4' = upd c4 (S * 7 + k) p))
    (h1 : (c1' = c1 ∧ c2' = c2 ∧ (¬ c1 (cr * 128 + S) = -1) ∧ ¬ p < c1 (cr * 128 + S)) ∨ (c1' = upd c1 (cr * 128 + S) p ∧ c2' = upd c2 (cr * 128 + S) (nI (rowC l)) ∧ (c1 (cr * 128 + S) = -1 ∨ p < c1 (cr * 128 + S)))) : QL D n pr dr cr b1 b2 (VpL V S k f p l) c1' c2' c3' c4' := by
  obtain ⟨q0, q1, q2, q3⟩ := hQ
  have same : ∀ j : Nat, j ≠ cr * 128 + S → c1' j = c1 j ∧ c2' j = c2 j := by
    intro j hj
    rcases h1 with ⟨rfl, rfl, -⟩ | ⟨rfl, rfl, -⟩
    · exact ⟨rfl, rfl⟩
    · exact ⟨pk_un hj, pk_un hj⟩
  refine ⟨fun j hj => ?_, ?_, ?_, ?_⟩
  · obtain ⟨s1, s2⟩ := same j (by omega)
    rw [s1, s2]
    exact q0 j hj
  · intro T j g p2 l2 hV
    rcases hV with hV | ⟨rfl, rfl, rfl, rfl, rfl⟩
    · exact q1 T j g p2 l2 hV
    · exact ⟨hS, h0, hk, hf0, hf1, hp0, hF⟩
  · intro T hT0 hT
    by_cases e : T = S
    · rw [e]
      refine Or.inr ?_
      rcases h1 with ⟨rfl, rfl, n1, n2⟩ | ⟨rfl, rfl, n1⟩
      · obtain ⟨x, -⟩ | ⟨k0, f0, l0, a, b, c⟩ := q2 S h0 hS
        · exact absurd x n1
        · refine ⟨k0, f0, l0, Or.inl a, b, fun k' f' p' l' hV => ?_⟩
          rcases hV with hV | ⟨-, rfl, rfl, rfl, rfl⟩
          · exact c k' f' p' l' hV
          · have h5 := hord k0 f0 _ l0 a
            rw [ii_lt] at n2
            omega
      · refine ⟨k, f, l, ?_, by rw [pk_us], fun k' f' p' l' hV => ?_⟩
        · rw [pk_us]
          exact Or.inr ⟨rfl, rfl, rfl, rfl, rfl⟩
        · rw [pk_us]
          rcases hV with hV | ⟨-, rfl, rfl, rfl, rfl⟩
          · refine Or.inl ?_
            obtain ⟨-, x⟩ | ⟨k0, f0, l0, a, b, c⟩ := q2 S h0 hS
            · exact absurd hV (x k' f' p' l')
            · have c2 := c k' f' p' l' hV
              rcases n1 with n1 | n1
              · have p0 := (q1 _ _ _ _ _ a).2.2.2.2.2.1
                rw [n1] at p0
                exact absurd p0 (by decide)
              · rw [ii_lt] at n1
                omega
          · exact Or.inr ⟨rfl, Nat.le_refl _⟩
    · obtain ⟨s1, s2⟩ := same (cr * 128 + T) (by omega)
      rw [s1, s2]
      rcases q2 T hT0 hT with ⟨x, y⟩ | ⟨k0, f0, l0, a, b, c⟩
      · refine Or.inl ⟨x, fun k' f' p' l' hV => ?_⟩
        rcases hV with hV | ⟨e2, -⟩
        · exact y k' f' p' l' hV
        · exact e e2
      · refine Or.inr ⟨k0, f0, l0, Or.inl a, b, fun k' f' p' l' hV => ?_⟩
        rcases hV with hV | ⟨e2, -⟩
        · exact c k' f' p' l' hV
        · exact absurd e2 e
  · intro T j hT hj
    rcases h3 with ⟨rfl, rfl⟩ | ⟨rfl, rfl⟩
    · exact (q3 T j hT hj).imp id (fun ⟨x, y⟩ => ⟨x, Or.inl y⟩)
    · by_cases e : T * 7 + j = S * 7 + k
      · rw [e, pk_us, pk_us]
        exact Or.inr ⟨l, Or.inr ⟨by omega, by omega, rfl, rfl, rfl⟩⟩
      · rw [pk_un e, pk_un e]
        exact (q3 T j hT hj).imp id (fun ⟨x, y⟩ => ⟨x, Or.inl y⟩)
/-- what extend leaves behind -/
def ExL (D : DT) (n : Nat) (pr dr : Int32) (cr : Nat) (b1 b2 : Nat → Int32) (V : VL) (c1 c2 c3 c4 : Nat → Int32) (S : Nat) (pt da pd : Int32) (rl : List Nat) : Prop :=
  ∃ V2 : VL, (∀ T k f p l, V T k f p l → V2 T k f p l) ∧ QL D n pr dr cr b1 b2 V2 c1 c2 c3 c4 ∧ (∀ T k f p l, V2 T k f p l → V T k f p l ∨ CloL D n V2 T (D.2.1 k) f p l) ∧ CloL D n V2 S pt da pd rl ∧ (∀ T k f p l, V2 T k f p l → rowC l * exS T < (rowC rl + 1) * exS S)
theorem la_e (R k Y : Nat) : (R * 8 + k) * Y = 8 * (R * Y) + k * Y := by rw [Nat.add_mul, Nat.mul_comm R 8, Nat.mul_assoc]
theorem la_s (a Y : Nat) : (a + 1) * Y = a * Y + Y := by rw [Nat.add_mul, Nat.one_mul]
theorem la_8 (a Y : Nat) : a * (8 * Y) = 8 * (a * Y) := Nat.mul_left_comm a 8 Y
theorem ExL_full {D : DT} {n : Nat} {pr dr : Int32} {cr : Nat} {b1 b2 : Nat → Int32} {V : VL} {c1 c2 c3 c4 : Nat → Int32} {S : Nat} {pt da pd : Int32} {rl : List Nat} (hn : n ≤ 7) (hS : S < 128) (h7 : pc7 S = 7) (hQ : QL D n pr dr cr b1 b2 V c1 c2 c3 c4) (hO : ∀ T k f p l, V T k f p l → rowC l * exS T ≤ rowC rl * exS S) : ExL D n pr dr cr b1 b2 V c1 c2 c3 c4 S pt da pd rl := by
  refine ⟨V, fun _ _ _ _ _ h => h, hQ, fun _ _ _ _ _ h => Or.inl h, fun k hk hb => ?_, fun T k f p l h => ?_⟩
  · rw [pc7_full S hS h7, b127 k (by omega)] at hb
    cases hb
  · have a := hO T k f p l h
    have b := exS_pos S
    rw [la_s]
    omega
/-- extend's loop: deliveries below k are done with -/
def LpL (D : DT) (n : Nat) (pr dr : Int32) (cr : Nat) (b1 b2 : Nat → Int32) (V0 V : VL) (c1 c2 c3 c4 : Nat → Int32) (S : Nat) (pt da pd : Int32) (rl : List Nat) (k : Nat) : Prop :=
  (∀ T j f p l, V0 T j f p l → V T j f p l) ∧ QL D n pr dr cr b1 b2 V c1 c2 c3 c4 ∧ (∀ T j f p l, V T j f p l → V0 T j f p l ∨ CloL D n V T (D.2.1 j) f p l) ∧
  (∀ j : Nat, j < k → j < n → Nat.testBit S j = false → (¬ stD D j pt da = -1) → ∃ (f p : Int32) (l' : List Nat), V (S ||| (1 <<< j)) j f p l' ∧ f.toInt ≤ (stD D j pt da + D.2.2.1 j).toInt ∧ p.toInt ≤ pd.toInt + (faD D j pt).toInt ∧ rowC l' ≤ rowC rl * 8 + (j + 1)) ∧
  (∀ T j f p l, V T j f p l → 8 * (rowC l * exS T) < (rowC rl * 8 + (k + 1)) * exS S)
section
variable {D : DT} {n : Nat} {pr dr : Int32} {cr : Nat} {b1 b2 : Nat → Int32} {V0 V : VL} {c1 c2 c3 c4 c1' c2' c3' c4' : Nat → Int32} {S : Nat} {pt da pd : Int32} {rl : List Nat} {k : Nat}
theorem LpL_0 (hQ : QL D n pr dr cr b1 b2 V c1 c2 c3 c4) (hO : ∀ T j f p l, V T j f p l → rowC l * exS T ≤ rowC rl * exS S) : LpL D n pr dr cr b1 b2 V V c1 c2 c3 c4 S pt da pd rl 0 := by
  refine ⟨fun _ _ _ _ _ h => h, hQ, fun _ _ _ _ _ h => Or.inl h, fun j hj => absurd hj (Nat.not_lt_zero _), fun T j f p l h => ?_⟩
  have a := hO T j f p l h
  have b := exS_pos S
  rw [la_e, la_s]
  omega
theorem LpL_end (h : LpL D n pr dr cr b1 b2 V0 V c1 c2 c3 c4 S pt da pd rl k) (hk : n ≤ k) (hk7 : k ≤ 7) : ExL D n pr dr cr b1 b2 V0 c1 c2 c3 c4 S pt da pd rl := by
  refine ⟨V, h.1, h.2.1, h.2.2.1, fun j hj => h.2.2.2.1 j (by omega) hj, fun T j f p l q => ?_⟩
  have a := h.2.2.2.2 T j f p l q
  have b : (rowC rl * 8 + (k + 1)) * exS S ≤ (rowC rl * 8 + 8) * exS S := Nat.mul_le_mul_right _ (by omega)
  rw [la_e (rowC rl) 8 (exS S)] at b
  rw [la_s]
  omega
theorem LpL_next (h : LpL D n pr dr cr b1 b2 V0 V c1 c2 c3 c4 S pt da pd rl k) (hk : k < n → Nat.testBit S k = false → (¬ stD D k pt da = -1) → ∃ (f p : Int32) (l' : List Nat), V (S ||| (1 <<< k)) k f p l' ∧ f.toInt ≤ (stD D k pt da + D.2.2.1 k).toInt ∧ p.toInt ≤ pd.toInt + (faD D k pt).toInt ∧ rowC l' ≤ rowC rl * 8 + (k + 1)) : LpL D n pr dr cr b1 b2 V0 V c1 c2 c3 c4 S pt da pd rl (k + 1) := by
  refine ⟨h.1, h.2.1, h.2.2.1, fun j hj hn hb hs => ?_, fun T j f p l q => ?_⟩
  · by_cases e : j = k
    · subst e; exact hk hn hb hs
    · exact h.2.2.2.1 j (by omega) hn hb hs
  · exact Nat.lt_of_lt_of_le (h.2.2.2.2 T j f p l q) (Nat.mul_le_mul_right _ (by omega))
theorem LpL_bit (h : LpL D n pr dr cr b1 b2 V0 V c1 c2 c3 c4 S pt da pd rl k) (hb : Nat.testBit S k = true) : LpL D n pr dr cr b1 b2 V0 V c1 c2 c3 c4 S pt da pd rl (k + 1) := LpL_next h (fun _ q => by rw [hb] at q; cases q)
theorem LpL_no (h : LpL D n pr dr cr b1 b2 V0 V c1 c2 c3 c4 S pt da pd rl k) (hs : stD D k pt da = -1) : LpL D n pr dr cr b1 b2 V0 V c1 c2 c3 c4 S pt da pd rl (k + 1) := LpL_next h (fun _ _ q => absurd hs q)
/-- nodes with the set that is come to now have lesser rows -/
theorem LpL_ord (h : LpL D n pr dr cr b1 b2 V0 V c1 c2 c3 c4 S pt da pd rl k) (hS : S < 128) (hk : k < 7) (hb : Nat.testBit S k = false) {w : Nat} (ew : w = S ||| (1 <<< k)) : ∀ T j f p l, V T j f p l → rowC l * exS T < (rowC rl * 8 + (k + 1)) * exS w := by
  intro T j f p l q
  have a := h.2.2.2.2 T j f p l q
  rw [exS_or S hS k hk hb, ← ew, la_8] at a
  omega
theorem LpL_row (h : LpL D n pr dr cr b1 b2 V0 V c1 c2 c3 c4 S pt da pd rl k) (hS : S < 128) (hk : k < 7) (hb : Nat.testBit S k = false) {w : Nat} (ew : w = S ||| (1 <<< k)) : ∀ j f p l, V w j f p l → rowC l < rowC (k :: rl) := fun j f p l q => Nat.lt_of_mul_lt_mul_right (LpL_ord h hS hk hb ew w j f p l q)
theorem LpL_dom (h : LpL D n pr dr cr b1 b2 V0 V c1 c2 c3 c4 S pt da pd rl k) (hS : S < 128) {w : Nat} (hw : w < 128) (ew : w = S ||| (1 <<< k)) (hk : k < 7) (hbt : Nat.testBit S k = false) {fr qd : Int32} (hfr : fr = stD D k pt da + D.2.2.1 k) (hb : fr.toInt ≤ 1199) (hqd : qd.toInt = pd.toInt + (faD D k pt).toInt) (hc : c3 (w * 7 + k) ≤ fr) (hc4 : c4 (w * 7 + k) ≤ qd) : LpL D n pr dr cr b1 b2 V0 V c1 c2 c3 c4 S pt da pd rl (k + 1) := by
  refine LpL_next h (fun _ _ _ => ?_)
  rcases h.2.1.2.2.2 w k hw hk with q | ⟨l', q⟩
  · rw [q, ii_le] at hc
    have e : (1073741824 : Int32).toInt = 1073741824 := by decide
    omega
  · have r : rowC l' < rowC rl * 8 + (k + 1) := LpL_row h hS hk hbt ew _ _ _ _ q
    rw [ew] at q
    refine ⟨_, _, l', q, ?_, ?_, by omega⟩
    · rw [← ew, ← hfr]
      exact (ii_le _ _).mp hc
    · rw [← ew, ← hqd]
      exact (ii_le _ _).mp hc4
theorem LpL_hO (h : LpL D n pr dr cr b1 b2 V0 V c1 c2 c3 c4 S pt da pd rl k) (hS : S < 128) (hk : k < 7) (hb : Nat.testBit S k = false) {w : Nat} (ew : w = S ||| (1 <<< k)) {f p : Int32} : ∀ T j f' p' l, VpL V w k f p (k :: rl) T j f' p' l → rowC l * exS T ≤ rowC (k :: rl) * exS w := by
  intro T j f' p' l q
  rcases q with q | ⟨rfl, -, -, -, rfl⟩
  · exact Nat.le_of_lt (LpL_ord h hS hk hb ew T j f' p' l q)
  · exact Nat.le_refl _
theorem LpL_vis (h : LpL D n pr dr cr b1 b2 V0 V c1 c2 c3 c4 S pt da pd rl k) (hS : S < 128) (hk : k < 7) (hbt : Nat.testBit S k = false) {w : Nat} (ew : w = S ||| (1 <<< k)) {fr qd : Int32} (hfr : fr = stD D k pt da + D.2.2.1 k) (hqd : qd.toInt = pd.toInt + (faD D k pt).toInt) (hX : ExL D n pr dr cr b1 b2 (VpL V w k fr qd (k :: rl)) c1' c2' c3' c4' w (D.2.1 k) fr qd (k :: rl)) : ∃ V' : VL, LpL D n pr dr cr b1 b2 V0 V' c1' c2' c3' c4' S pt da pd rl (k + 1) := by
  obtain ⟨V2, u1, u2, u3, u4, u5⟩ := hX
  have up : ∀ T j f p l, V T j f p l → V2 T j f p l := fun T j f p l q => u1 T j f p l (Or.inl q)
  refine ⟨V2, fun T j f p l q => up T j f p l (h.1 T j f p l q), u2, fun T j f p l q => ?_, fun j hj hn hb hs => ?_, fun T j f p l q => ?_⟩
  · rcases u3 T j f p l q with (q | ⟨rfl, rfl, rfl, rfl, rfl⟩) | q
    · rcases h.2.2.1 T j f p l q with q | q
      · exact Or.inl q
      · exact Or.inr (CloL_up up q)
    · exact Or.inr u4
    · exact Or.inr q
  · by_cases e : j = k
    · subst e
      refine ⟨fr, qd, j :: rl, ?_, by rw [hfr]; exact Int.le_refl _, by rw [hqd]; exact Int.le_refl _, Nat.le_refl _⟩
      rw [← ew]
      exact u1 _ _ _ _ _ (Or.inr ⟨rfl, rfl, rfl, rfl, rfl⟩)
    · obtain ⟨f, p, l', a, b⟩ := h.2.2.2.1 j (by omega) hn hb hs
      exact ⟨f, p, l', up _ _ _ _ _ a, b⟩
  · have a : rowC l * exS T < (rowC rl * 8 + (k + 1) + 1) * exS w := u5 T j f p l q
    rw [exS_or S hS k hk hbt, ← ew, la_8]
    have b : rowC rl * 8 + (k + 1) + 1 = rowC rl * 8 + (k + 1 + 1) := by omega
    rw [b] at a
    omega
end
/-- what search finds -/
def SrL (D : DT) (n : Nat) (pr dr : Int32) (cr : Nat) (c1 c2 : Nat → Int32) : Prop := ∀ S : Nat, 0 < S → S < 128 → (c1 (cr * 128 + S) = -1 ∧ ∀ l pt da co, ¬ FeL D n pr dr l S pt da co) ∨ (0 ≤ (c1 (cr * 128 + S)).toInt ∧ ∃ l, BsP D n pr dr S (c1 (cr * 128 + S)).toInt l ∧ c2 (cr * 128 + S) = nI (rowC l))
theorem SrL_of {D : DT} (h : okD D) {n : Nat} (hn : n ≤ 7) {pr dr : Int32} {cr : Nat} {b1 b2 c1 c2 c3 c4 : Nat → Int32} (hd0 : 0 ≤ dr.toInt) (hd1 : dr.toInt ≤ 999) (hX : ExL D n pr dr cr b1 b2 (fun _ _ _ _ _ => False) c1 c2 c3 c4 0 pr dr 0 []) : SrL D n pr dr cr c1 c2 ∧ ∀ j : Nat, (j < cr * 128 ∨ cr * 128 + 128 ≤ j) → c1 j = b1 j ∧ c2 j = b2 j := by
  obtain ⟨V, -, q, u3, u4, -⟩ := hX
  have hc : ∀ S k f p l, V S k f p l → 0 ≤ f.toInt ∧ CloL D n V S (D.2.1 k) f p l := fun S k f p l hV => ⟨(q.2.1 S k f p l hV).2.2.2.1, (u3 S k f p l hV).resolve_left (fun e => e)⟩
  refine ⟨fun S h0 hS => ?_, q.1⟩
  have all : ∀ l pt da co, FeL D n pr dr l S pt da co → ∃ k f p l', V S k f p l' ∧ p.toInt ≤ co ∧ rowC l' ≤ rowC l := by
    intro l pt da co hF
    obtain ⟨k, l0, rfl⟩ := FeL_pos hn hF h0
    obtain ⟨-, -, -, f, p, l', a, -, b, c⟩ := fe_allL h hn hd0 hd1 u4 hc l0 k S pt da co hF
    exact ⟨k, f, p, l', a, b, c⟩
  rcases q.2.2.1 S h0 hS with ⟨x, y⟩ | ⟨k, f, l, a, b, c⟩
  · refine Or.inl ⟨x, fun l pt da co hF => ?_⟩
    obtain ⟨k, f, p, l', a, -⟩ := all l pt da co hF
    exact y k f p l' a
  · have g := q.2.1 S k f _ l a
    refine Or.inr ⟨g.2.2.2.2.2.1, l, ⟨⟨_, _, g.2.2.2.2.2.2⟩, fun l' pt da co hF => ?_⟩, b⟩
    obtain ⟨k', f', p', l2, a', b', c'⟩ := all l' pt da co hF
    have := c k' f' p' l2 a'
    omega
/-- fares add up without a turn over -/
theorem paid_e {D : DT} (hok : okD D) (h8 : ∀ j : Nat, j < 100 → inR (D.2.2.2.2.2 j) (-1) 10000 = true) {k : Nat} (hk : k < 7) {pt da : Int32} (hp : inR pt 0 9 = true) (hs : ¬ stD D k pt da = -1) {co_ r : Int32} {a : Nat} (hr : r = faD D k pt) (hco : inR co_ 0 (nI (a * 10000)) = true) (ha : a ≤ 8) : (co_ + r).toInt = co_.toInt + (faD D k pt).toInt := by
  have f := faD_bd hok h8 hk hp hs
  have c := inR_b hco (a := 0) (by decide) (b := ((a * 10000 : Nat) : Int)) (nI_toInt (by omega))
  exact addI rfl (by rw [hr]) (by omega) (by omega)
theorem out_l4 {x pd : Int32} {c4 : Nat → Int32} {ax : Nat} (ha : ax < 2 ^ 31) (e : x = c4 (nI ax).toNatClampNeg) (c : ¬ pd < x) : c4 ax ≤ pd := out_le ha e c
theorem rowM_le : ∀ l : List Nat, rowM l ≤ rowC l := fun l => by
  rw [row_CM l]
  omega
theorem FeL_row {D : DT} {n : Nat} (hn : n ≤ 7) {pr dr : Int32} {l : List Nat} {S : Nat} {pt da : Int32} {co : Int} (h : FeL D n pr dr l S pt da co) : rowC l < 2097152 ∧ rowM l < 2097152 := by
  obtain ⟨a, -, b, c⟩ := FeL_S hn l S pt da co h
  have h1 := rowC_lt l (fun k hk => Nat.lt_of_lt_of_le (c k hk) hn)
  have h2 := pc7_le S a
  have h3 : 8 ^ l.length ≤ 8 ^ 7 := Nat.pow_le_pow_right (by decide) (by omega)
  have h4 : (8 : Nat) ^ 7 = 2097152 := by decide
  have h5 := rowM_le l
  omega
