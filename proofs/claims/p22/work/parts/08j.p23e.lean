/-- the giving below n, nothing behind -/
def gz (g : Nat → Nat) (n : Nat) : Nat → Nat := fun d => if d < n then g d else 0
theorem hN_gz (g : Nat → Nat) (n : Nat) : ∀ j : Nat, hN (gz g n) (n + j) = hN g n * 5 ^ j
  | 0 => by
    rw [Nat.add_zero, Nat.pow_zero, Nat.mul_one]
    exact hN_cg n (fun k hk => if_pos hk)
  | j + 1 => by
    show 5 * hN (gz g n) (n + j) + gz g n (n + j) = hN g n * 5 ^ (j + 1)
    rw [hN_gz g n j, show gz g n (n + j) = 0 from if_neg (by omega), Nat.add_zero, Nat.pow_succ, Nat.mul_comm (5 ^ j) 5, Nat.mul_left_comm]
theorem hN_z7 (g : Nat → Nat) {n : Nat} (hn : n ≤ 7) : hN (gz g n) 7 = hN g n * 5 ^ (7 - n) := by
  have h := hN_gz g n (7 - n)
  rw [show n + (7 - n) = 7 by omega] at h
  exact h
theorem hN_7 (g : Nat → Nat) : hN g 7 = 15625 * g 0 + 3125 * g 1 + 625 * g 2 + 125 * g 3 + 25 * g 4 + 5 * g 5 + g 6 := by
  show 5 * (5 * (5 * (5 * (5 * (5 * (5 * 0 + g 0) + g 1) + g 2) + g 3) + g 4) + g 5) + g 6 = _
  omega
theorem dig_d {g : Nat → Nat} {n d : Nat} (hd : d < 7) (lw : g d < 4 → d < n) : 1 * bN (setOf g 1 7) d + 2 * bN (setOf g 2 7) d + 3 * bN (setOf g 3 7) d + 4 * bN ((2 ^ n - 1) ^^^ unOf g 4 7) d = gz (fun d => if g d < 4 then g d else 4) n d := by
  unfold bN gz
  rw [setOf_bit, setOf_bit, setOf_bit, Nat.testBit_xor, unOf_bit, Nat.testBit_two_pow_sub_one]
  by_cases q : g d < 4
  · have hn := lw q
    rcases (show g d = 0 ∨ g d = 1 ∨ g d = 2 ∨ g d = 3 by omega) with e | e | e | e <;> simp [e, hd, hn]
  · have q1 : ¬ g d = 1 := by omega
    have q2 : ¬ g d = 2 := by omega
    have q3 : ¬ g d = 3 := by omega
    by_cases r : d < n <;> simp [q, q1, q2, q3, r]
theorem num7 {g : Nat → Nat} {n : Nat} (lw : ∀ d : Nat, d < 7 → g d < 4 → d < n) : nsm g 7 4 + 4 * wt7 ((2 ^ n - 1) ^^^ unOf g 4 7) = hN (gz (fun d => if g d < 4 then g d else 4) n) 7 := by
  rw [hN_7, ← dig_d (d := 0) (by decide) (lw 0 (by decide)), ← dig_d (d := 1) (by decide) (lw 1 (by decide)), ← dig_d (d := 2) (by decide) (lw 2 (by decide)), ← dig_d (d := 3) (by decide) (lw 3 (by decide)), ← dig_d (d := 4) (by decide) (lw 4 (by decide)), ← dig_d (d := 5) (by decide) (lw 5 (by decide)), ← dig_d (d := 6) (by decide) (lw 6 (by decide))]
  show 0 + 0 * wt7 (setOf g 0 7) + 1 * wt7 (setOf g 1 7) + 2 * wt7 (setOf g 2 7) + 3 * wt7 (setOf g 3 7) + 4 * wt7 ((2 ^ n - 1) ^^^ unOf g 4 7) = _
  unfold wt7
  omega
theorem vsm_bd {F : Nat → Nat → Prop} {C : Nat → Nat → Int} {n : Nat} {g : Nat → Nat} (hb : ∀ i : Nat, i < 4 → ∀ q : Nat, F i q → 0 ≤ C i q ∧ C i q ≤ 70000) (h : ∀ i : Nat, i < 4 → F i (setOf g i n)) : 0 ≤ vsm C g n 4 ∧ vsm C g n 4 ≤ 280000 := by
  have a0 := hb 0 (by decide) _ (h 0 (by decide))
  have a1 := hb 1 (by decide) _ (h 1 (by decide))
  have a2 := hb 2 (by decide) _ (h 2 (by decide))
  have a3 := hb 3 (by decide) _ (h 3 (by decide))
  show 0 ≤ 0 + C 0 (setOf g 0 n) + C 1 (setOf g 1 n) + C 2 (setOf g 2 n) + C 3 (setOf g 3 n) ∧ 0 + C 0 (setOf g 0 n) + C 1 (setOf g 1 n) + C 2 (setOf g 2 n) + C 3 (setOf g 3 n) ≤ 280000
  omega
theorem same7 {g : Nat → Nat} {n : Nat} (hn : n ≤ 7) (lw : ∀ d : Nat, d < 7 → g d < 4 → d < n) : (∀ i : Nat, i < 4 → setOf g i 7 = setOf g i n) ∧ unOf g 4 7 = unOf g 4 n := by
  refine ⟨fun i hi => Nat.eq_of_testBit_eq (fun d => ?_), Nat.eq_of_testBit_eq (fun d => ?_)⟩
  · rw [setOf_bit, setOf_bit]
    have : (d < 7 ∧ g d = i) ↔ (d < n ∧ g d = i) := ⟨fun q => ⟨lw d q.1 (by omega), q.2⟩, fun q => ⟨by omega, q.2⟩⟩
    simp only [this]
  · rw [unOf_bit, unOf_bit]
    have : (d < 7 ∧ g d < 4) ↔ (d < n ∧ g d < 4) := ⟨fun q => ⟨lw d q.1 q.2, q.2⟩, fun q => ⟨by omega, q.2⟩⟩
    simp only [this]
theorem hN_b7 {g : Nat → Nat} {n : Nat} (h : ∀ k : Nat, k < n → g k ≤ 4) : hN (gz g n) 7 < 78125 := by
  have a := hN_lt (g := gz g n) 7 (fun k _ => by
    unfold gz
    by_cases q : k < n
    · rw [if_pos q]; exact h k q
    · rw [if_neg q]; exact Nat.zero_le _)
  have e : (5 : Nat) ^ 7 = 78125 := by decide
  omega
/-- the class's choice is the best of all givings -/
theorem BG_cls {F : Nat → Nat → Prop} {C : Nat → Nat → Int} {n : Nat} (hn : n ≤ 7) (hF0 : ∀ i : Nat, F i 0) (hFn : ∀ i q : Nat, F i q → q < 2 ^ n) {fj : Nat → Int64} {dn : Int32} {bv : Int64} (hLs : LsE F C 4 fj (2 ^ n - 1)) (hCh : ChX fj (2 ^ n - 1) (2 ^ n - 1 + 1) dn bv) :
    ∃ g0, OKg F n g0 ∧ (∀ g, OKg F n g → KeyLe C n g0 g) ∧ dn = nI (cnt g0 n) ∧ bv.toInt = vsm C g0 n 4 * 78125 + (hN (gz g0 n) 7 : Int) := by
  have p2 : 0 < 2 ^ n := Nat.pow_pos (by decide)
  rcases hCh with ⟨-, -, c⟩ | ⟨m, hm, e, a, T, t1, t2, t3, t4⟩
  · obtain ⟨v, hv⟩ := RR_RRv (C := C) (RR_zero hF0 4)
    rcases hLs 0 (Nat.zero_le _) with ⟨-, x⟩ | ⟨x, -⟩
    · exact absurd hv (x v)
    · exact absurd x (c 0 (by omega))
  · rcases hLs T (by omega) with ⟨x, -⟩ | ⟨-, ⟨g, eT, hg, hv⟩, -⟩
    · exact absurd t2 x
    have lw : ∀ d : Nat, d < 7 → g d < 4 → d < n := by
      intro d hd hq
      rcases Nat.lt_or_ge d n with r | r
      · exact r
      · have hb := setOf_bit g (g d) 7 d
        rw [decide_eq_true ⟨hd, rfl⟩, Nat.testBit_lt_two_pow (Nat.lt_of_lt_of_le (hFn _ _ (hg (g d) hq)) (Nat.pow_le_pow_right (n := 2) (by decide) r))] at hb
        cases hb
    obtain ⟨s1, s2⟩ := same7 hn lw
    have g0le : ∀ k : Nat, k < n → (if g k < 4 then g k else 4) ≤ 4 := by
      intro k _
      by_cases q : g k < 4
      · rw [if_pos q]; omega
      · rw [if_neg q]; exact Nat.le_refl _
    have sS : ∀ i : Nat, i < 4 → setOf (fun d => if g d < 4 then g d else 4) i n = setOf g i 7 := by
      intro i hi
      rw [s1 i hi]
      refine Nat.eq_of_testBit_eq (fun d => ?_)
      rw [setOf_bit, setOf_bit]
      have : ((if g d < 4 then g d else 4) = i) ↔ g d = i := by
        by_cases q : g d < 4
        · rw [if_pos q]
        · rw [if_neg q]; omega
      simp only [this]
    have cS : cnt (fun d => if g d < 4 then g d else 4) n = pc7 T := by
      rw [eT, s2, pc_unOf g n hn, ← pc_sum _ n hn, ← pc_sum g n hn, sS 0 (by decide), sS 1 (by decide), sS 2 (by decide), sS 3 (by decide), s1 0 (by decide), s1 1 (by decide), s1 2 (by decide), s1 3 (by decide)]
    have vS := (vsm_cg (C := C) (g := fun d => if g d < 4 then g d else 4) (g' := g) (m := n) (m' := 7) 4 sS).1
    have nS := num7 lw
    have bS : bv.toInt = vsm C (fun d => if g d < 4 then g d else 4) n 4 * 78125 + (hN (gz (fun d => if g d < 4 then g d else 4) n) 7 : Int) := by
      rw [t4, hv, vS, ← nS]
      unfold VLs
      rw [← eT]
      omega
    refine ⟨fun d => if g d < 4 then g d else 4, ⟨g0le, fun i hi => by rw [sS i hi]; exact hg i hi⟩, fun g2 hg2 => ?_, by rw [cS, t3]; exact e, bS⟩
    -- another giving
    have h1le : ∀ d : Nat, d < 7 → (if d < n then g2 d else 4) < 4 → d < n := by
      intro d _ q
      rcases Nat.lt_or_ge d n with r | r
      · exact r
      · rw [if_neg (by omega)] at q; omega
    obtain ⟨u1, u2⟩ := same7 (g := fun d => if d < n then g2 d else 4) hn h1le
    have w1 : ∀ i : Nat, setOf (fun d => if d < n then g2 d else 4) i n = setOf g2 i n := fun i => setOf_cg9 (fun k hk => if_pos hk)
    have hR : RRv F C 4 (unOf (fun d => if d < n then g2 d else 4) 4 7) (VLs C (fun d => if d < n then g2 d else 4) 4) := ⟨_, rfl, fun i hi => by rw [u1 i hi, w1 i]; exact hg2.2 i hi, rfl⟩
    have hTl : unOf (fun d => if d < n then g2 d else 4) 4 7 ≤ 2 ^ n - 1 := by
      rw [u2]
      have := unOf_lt (fun d => if d < n then g2 d else 4) 4 n
      omega
    have cN : pc7 (unOf (fun d => if d < n then g2 d else 4) 4 7) = cnt g2 n := by
      rw [u2, pc_unOf _ n hn]
      exact cnt_cg n (fun k hk => if_pos hk)
    have vN : vsm C (fun d => if d < n then g2 d else 4) 7 4 = vsm C g2 n 4 := (vsm_cg (C := C) 4 (fun i hi => by rw [u1 i hi, w1 i])).1
    have nN := num7 (g := fun d => if d < n then g2 d else 4) h1le
    have zN : hN (gz (fun d => if (if d < n then g2 d else 4) < 4 then (if d < n then g2 d else 4) else 4) n) 7 = hN (gz g2 n) 7 := hN_cg 7 (fun k _ => by
      unfold gz
      by_cases q : k < n
      · have b4 := hg2.1 k q
        by_cases r : g2 k < 4
        · simp [q, r]
        · have r4 : g2 k = 4 := by omega
          simp [q, r4]
      · simp [q])
    rw [zN] at nN
    rcases hLs _ hTl with ⟨-, x⟩ | ⟨x, -, y⟩
    · exact absurd hR (x _)
    · have y1 := y _ hR
      have z := a _ (by omega) x
      have b0 := hN_b7 (g := fun d => if g d < 4 then g d else 4) g0le
      have b1 := hN_b7 hg2.1
      have k0 := hN_z7 (fun d => if g d < 4 then g d else 4) hn
      have k1 := hN_z7 g2 hn
      unfold KeyLe
      rw [cS, ← cN, t3]
      rcases z with z | ⟨z1, z2⟩
      · exact Or.inl z
      · refine Or.inr ⟨z1, ?_⟩
        have y2 : bv.toInt ≤ vsm C g2 n 4 * 78125 + (hN (gz g2 n) 7 : Int) := by
          rw [← nN, ← vN]
          unfold VLs at y1
          omega
        rw [bS] at y2
        rcases Int.lt_or_le (vsm C (fun d => if g d < 4 then g d else 4) n 4) (vsm C g2 n 4) with q | q
        · exact Or.inl q
        · have q2 : vsm C (fun d => if g d < 4 then g d else 4) n 4 = vsm C g2 n 4 := by omega
          refine Or.inr ⟨q2, ?_⟩
          rw [q2] at y2
          have q3 : hN (gz (fun d => if g d < 4 then g d else 4) n) 7 ≤ hN (gz g2 n) 7 := by omega
          rw [k0, k1] at q3
          exact Nat.le_of_mul_le_mul_right q3 (Nat.pow_pos (by decide))
/-- what choose reads off the best value -/
theorem best_e {bv x y : Int64} {V : Int} {N : Nat} (hb : bv.toInt = V * 78125 + (N : Int)) (h0 : 0 ≤ V) (h1 : V ≤ 280000) (hN : N < 78125) (ex : x = bv / 78125) (ey : y = bv - bv / 78125 * 78125) : x.toInt32.toInt = V ∧ y.toInt32 = nI N := by
  obtain ⟨v, rfl⟩ : ∃ v : Nat, V = (v : Int) := ⟨V.toNat, by omega⟩
  have e : bv = lN (v * 78125 + N) := Int64.toInt_inj.mp (by
    rw [hb]
    show _ = (Int64.ofNat (v * 78125 + N)).toInt
    rw [lg_ofNat_toInt (by omega)]
    omega)
  have hd : bv / 78125 = lN v := by
    rw [e, show (78125 : Int64) = lN 78125 from by decide, pk_lDiv (by omega) (by decide) (by decide), show (v * 78125 + N) / 78125 = v by omega]
  have hr : bv - bv / 78125 * 78125 = lN N := by
    rw [e, show (78125 : Int64) = lN 78125 from by decide, pk_lRem (by omega) (by decide) (by decide), show (v * 78125 + N) % 78125 = N by omega]
  refine ⟨?_, ?_⟩
  · rw [ex, hd, lN_i, nI_toInt (by omega)]
  · rw [ey, hr, lN_i]
/-- the crew of a delivery as readRow reads it -/
def rdI (x : Int32) : Int32 := if x = 4 then -1 else x
def rdW (w : Int32) (j : Nat) : Int32 := rdI (w / sWn j - w / sWn j / 5 * 5)
theorem sWn_e : ∀ j : Nat, j < 7 → sWn j = nI (5 ^ (6 - j)) := by decide +kernel
theorem rdW_e {N j : Nat} (hN : N < 78125) (hj : j < 7) : rdW (nI N) j = gI (N / 5 ^ (6 - j) % 5) := by
  unfold rdW rdI gI
  have p5 : 5 ^ (6 - j) ≤ 5 ^ 6 := Nat.pow_le_pow_right (by decide) (by omega)
  have p6 : (5 : Nat) ^ 6 = 15625 := by decide
  have p0 : 0 < 5 ^ (6 - j) := Nat.pow_pos (by decide)
  have hle : N / 5 ^ (6 - j) ≤ N := Nat.div_le_self _ _
  rw [sWn_e j hj, pk_div (by omega) p0 (by omega), show (5 : Int32) = nI 5 from rfl, pk_rem (by omega) (by decide) (by decide)]
  by_cases q : N / 5 ^ (6 - j) % 5 = 4
  · rw [if_pos q, if_pos (by rw [q]; rfl)]
  · rw [if_neg q, if_neg (show ¬ nI (N / 5 ^ (6 - j) % 5) = 4 from fun r => q ((nI_eq (b := 4) (by omega) (by decide)).mp r))]
theorem dig_at5 {g : Nat → Nat} (h : ∀ k : Nat, k < 7 → g k ≤ 4) : ∀ j : Nat, j < 7 → hN g 7 / 5 ^ (6 - j) % 5 = g j := by
  intro j hj
  have a0 := h 0 (by decide)
  have a1 := h 1 (by decide)
  have a2 := h 2 (by decide)
  have a3 := h 3 (by decide)
  have a4 := h 4 (by decide)
  have a5 := h 5 (by decide)
  have a6 := h 6 (by decide)
  rw [hN_7]
  rcases (show j = 0 ∨ j = 1 ∨ j = 2 ∨ j = 3 ∨ j = 4 ∨ j = 5 ∨ j = 6 by omega) with rfl | rfl | rfl | rfl | rfl | rfl | rfl
  · show _ / 15625 % 5 = _
    omega
  · show _ / 3125 % 5 = _
    omega
  · show _ / 625 % 5 = _
    omega
  · show _ / 125 % 5 = _
    omega
  · show _ / 25 % 5 = _
    omega
  · show _ / 5 % 5 = _
    omega
  · show _ / 1 % 5 = _
    omega
theorem crews_e {g : Nat → Nat} {n : Nat} (hg : ∀ k : Nat, k < n → g k ≤ 4) (hn : n ≤ 7) {f3 : Nat → Int32} {w : Int32} (hw : w = nI (hN (gz g n) 7)) (h : ∀ j : Nat, j < 7 → f3 j = rdW w j) : ∀ k : Nat, k < n → f3 k = gI (g k) := by
  intro k hk
  have z : ∀ k : Nat, k < 7 → gz g n k ≤ 4 := fun k _ => by
    unfold gz
    by_cases q : k < n
    · rw [if_pos q]; exact hg k q
    · rw [if_neg q]; exact Nat.zero_le _
  rw [h k (by omega), hw, rdW_e (hN_b7 hg) (by omega), dig_at5 z k (by omega), show gz g n k = g k from if_pos hk]
theorem gI_eq {x c : Nat} (hx : x ≤ 4) (hc : c < 4) : gI x = nI c ↔ x = c := by
  unfold gI
  by_cases q : x = 4
  · rw [if_pos q]
    refine ⟨fun e => ?_, fun e => by omega⟩
    have e2 : (-1 : Int32).toInt = (c : Int) := by rw [e, nI_toInt (by omega)]
    rw [show (-1 : Int32).toInt = -1 by decide] at e2
    omega
  · rw [if_neg q]
    exact nI_eq (by omega) (by omega)
/-- the digits of the class's number and of the reference's -/
theorem rowC_drop : ∀ (j : Nat) (l : List Nat), (∀ k ∈ l, k < 7) → rowC l / 8 ^ j = rowC (l.drop j) := by
  intro j
  induction j with
  | zero => intro l _; rw [Nat.pow_zero, Nat.div_one]; rfl
  | succ j ih =>
    intro l h
    cases l with
    | nil =>
      show 0 / 8 ^ (j + 1) = 0
      exact Nat.zero_div _
    | cons k l =>
      have hk := h k (List.mem_cons_self ..)
      rw [Nat.pow_succ, Nat.mul_comm, ← Nat.div_div_eq_div_mul]
      show (rowC l * 8 + (k + 1)) / 8 / 8 ^ j = rowC (l.drop j)
      rw [show (rowC l * 8 + (k + 1)) / 8 = rowC l by omega]
      exact ih l (fun x hx => h x (List.mem_cons_of_mem _ hx))
theorem rowM_drop : ∀ (j : Nat) (l : List Nat), (∀ k ∈ l, k < 7) → rowM l / 8 ^ j = rowM (l.drop j) := by
  intro j
  induction j with
  | zero => intro l _; rw [Nat.pow_zero, Nat.div_one]; rfl
  | succ j ih =>
    intro l h
    cases l with
    | nil =>
      show 0 / 8 ^ (j + 1) = 0
      exact Nat.zero_div _
    | cons k l =>
      have hk := h k (List.mem_cons_self ..)
      rw [Nat.pow_succ, Nat.mul_comm, ← Nat.div_div_eq_div_mul]
      show (8 * rowM l + k) / 8 / 8 ^ j = rowM (l.drop j)
      rw [show (8 * rowM l + k) / 8 = rowM l by omega]
      exact ih l (fun x hx => h x (List.mem_cons_of_mem _ hx))
theorem sh_oct {n i : Nat} (hn : n < 2097152) (hs : ((nI (3 * i) &&& 31).toBitVec.smod 32).toNat = 3 * i) : (nI n >>> (nI (3 * i) &&& 31)) &&& 7 = nI (n / 8 ^ i % 8) := by
  rw [pk_shrN (by omega) _ (3 * i) hs]
  have hle : n / 2 ^ (3 * i) ≤ n := Nat.div_le_self _ _
  rw [pk_andN (by omega) 3 (by decide), Nat.pow_mul]
theorem sh_all9 : ∀ i, i < 7 → ((nI (3 * i) &&& 31).toBitVec.smod 32).toNat = 3 * i := by decide +kernel
/-- setDays goes along the row from its first delivery -/
def SdI (D : DT) (pr dr : Int32) (f0 : Nat → Int32) (l : List Nat) (pv dv zz : Int32) (f4 : Nat → Int32) (j : Nat) : Prop := j ≤ 7 ∧ zz = nI (3 * j) - 3 ∧ pv = plL D pr (l.drop j) ∧ dv = dyL D pr dr (l.drop j) ∧ f4 = Rn D pr dr f0 (l.drop j)
section
variable {D : DT} {pr dr : Int32} {f0 : Nat → Int32} {l : List Nat} {pv dv zz : Int32} {f4 : Nat → Int32} {j n : Nat}
theorem SdI_0 (hl : l.length ≤ 7) : SdI D pr dr f0 l pr dr 18 f0 7 := by
  have e : l.drop 7 = [] := List.drop_eq_nil_of_le hl
  exact ⟨by decide, by decide, by rw [e]; rfl, by rw [e]; rfl, by rw [e]; rfl⟩
theorem SdI_end (h : SdI D pr dr f0 l pv dv zz f4 j) (c : zz < 0) : f4 = Rn D pr dr f0 l := by
  obtain ⟨a, b, -, -, e⟩ := h
  rcases Nat.eq_zero_or_pos j with q | q
  · rw [q] at e
    exact e
  · have b2 : zz = nI (3 * (j - 1)) := by
      rw [b, show (3 : Int32) = nI 3 from rfl, pk_sub (by omega), show 3 * j - 3 = 3 * (j - 1) by omega]
    rw [b2] at c
    exact absurd c (nI_pos (by omega))
theorem SdI_at (h : SdI D pr dr f0 l pv dv zz f4 j) (c : ¬ zz < 0) : ∃ i : Nat, j = i + 1 ∧ i < 7 ∧ zz = nI (3 * i) := by
  obtain ⟨a, b, -⟩ := h
  cases j with
  | zero => exact absurd (by rw [b]; decide) c
  | succ i => exact ⟨i, rfl, by omega, by rw [b, show (3 : Int32) = nI 3 from rfl, pk_sub (by omega), show 3 * (i + 1) - 3 = 3 * i by omega]⟩
theorem drop_cases (l : List Nat) (i : Nat) : (l.drop i = [] ∧ l.drop (i + 1) = []) ∨ ∃ k, l.drop i = k :: l.drop (i + 1) := by
  induction i generalizing l with
  | zero =>
    cases l with
    | nil => exact Or.inl ⟨rfl, rfl⟩
    | cons k l => exact Or.inr ⟨k, rfl⟩
  | succ i ih =>
    cases l with
    | nil => exact Or.inl ⟨rfl, rfl⟩
    | cons k l => exact ih l
theorem zz_next {i : Nat} {z2 : Int32} (e : z2 = nI (3 * i) + (-3)) : z2 = nI (3 * i) - 3 := by rw [e, Int32.sub_eq_add_neg]
/-- a digit that is none -/
theorem SdI_skip {i : Nat} (h : SdI D pr dr f0 l pv dv zz f4 (i + 1)) (h7 : ∀ k ∈ l, k < 7) (hr : rowC l < 2097152) (hi : i < 7) {y z2 : Int32} (ey : y = ((nI (rowC l) >>> (nI (3 * i) &&& 31)) &&& 7) - 1) (c : y < 0) (ez : z2 = nI (3 * i) + (-3)) : SdI D pr dr f0 l pv dv z2 f4 i := by
  obtain ⟨a, b, c1, c2, c3⟩ := h
  rw [sh_oct hr (sh_all9 i hi), rowC_drop i l h7] at ey
  rcases drop_cases l i with ⟨q1, q2⟩ | ⟨k, q⟩
  · exact ⟨by omega, zz_next ez, by rw [c1, q1, q2], by rw [c2, q1, q2], by rw [c3, q1, q2]⟩
  · rw [q] at ey
    have hk := h7 k (List.mem_of_mem_drop (i := i) (by rw [q]; exact List.mem_cons_self ..))
    have e2 : rowC (k :: l.drop (i + 1)) % 8 = k + 1 := by
      show (rowC (l.drop (i + 1)) * 8 + (k + 1)) % 8 = k + 1
      omega
    rw [e2, nI_pred] at ey
    rw [ey] at c
    exact absurd c (nI_pos (by omega))
/-- the next delivery of the row -/
theorem SdI_dd {i : Nat} (h7 : ∀ k ∈ l, k < 7) (hr : rowC l < 2097152) (hi : i < 7) {y : Int32} (ey : y = ((nI (rowC l) >>> (nI (3 * i) &&& 31)) &&& 7) - 1) (c : ¬ y < 0) : ∃ d : Nat, d < 7 ∧ y = nI d ∧ l.drop i = d :: l.drop (i + 1) := by
  rw [sh_oct hr (sh_all9 i hi), rowC_drop i l h7] at ey
  rcases drop_cases l i with ⟨q1, q2⟩ | ⟨k, q⟩
  · rw [q1] at ey
    exact absurd (by rw [ey]; decide) c
  · rw [q] at ey
    have hk := h7 k (List.mem_of_mem_drop (i := i) (by rw [q]; exact List.mem_cons_self ..))
    have e2 : rowC (k :: l.drop (i + 1)) % 8 = k + 1 := by
      show (rowC (l.drop (i + 1)) * 8 + (k + 1)) % 8 = k + 1
      omega
    rw [e2, nI_pred] at ey
    exact ⟨k, hk, ey, q⟩
theorem SdI_step {i d : Nat} (h : SdI D pr dr f0 l pv dv zz f4 (i + 1)) (q : l.drop i = d :: l.drop (i + 1)) {st dv2 z2 : Int32} {f42 : Nat → Int32} (hs : st = stD D d pv dv) (hd : dv2 = st + D.2.2.1 d) (hf : f42 = upd f4 d st) (ez : z2 = nI (3 * i) + (-3)) : SdI D pr dr f0 l (D.2.1 d) dv2 z2 f42 i := by
  obtain ⟨a, b, c1, c2, c3⟩ := h
  refine ⟨by omega, zz_next ez, by rw [q]; rfl, ?_, ?_⟩
  · rw [q, hd, hs, c1, c2]; rfl
  · rw [q, hf, hs, c1, c2, c3]; rfl
/-- the reference's goes along the same row -/
def GoI (D : DT) (pr dr : Int32) (f0 : Nat → Int32) (l : List Nat) (pv dv : Int32) (fb : Nat → Int32) (j : Nat) : Prop := j ≤ l.length ∧ pv = plL D pr (l.drop j) ∧ dv = dyL D pr dr (l.drop j) ∧ fb = Rn D pr dr f0 (l.drop j)
theorem GoI_0 : GoI D pr dr f0 l pr dr f0 l.length := by
  have e : l.drop l.length = [] := List.drop_eq_nil_of_le (Nat.le_refl _)
  exact ⟨Nat.le_refl _, by rw [e]; rfl, by rw [e]; rfl, by rw [e]; rfl⟩
theorem GoI_end {fb : Nat → Int32} (h : GoI D pr dr f0 l pv dv fb 0) : fb = Rn D pr dr f0 l := h.2.2.2
theorem GoI_dd {i : Nat} {fb : Nat → Int32} (h : GoI D pr dr f0 l pv dv fb (i + 1)) (h7 : ∀ k ∈ l, k < 7) (hr : rowM l < 2097152) (hi : i < 7) {y : Int32} (ey : y = (nI (rowM l) >>> (nI (3 * i) &&& 31)) &&& 7) : ∃ d : Nat, d < 7 ∧ y = nI d ∧ l.drop i = d :: l.drop (i + 1) := by
  rw [sh_oct hr (sh_all9 i hi), rowM_drop i l h7] at ey
  rcases drop_cases l i with ⟨q1, q2⟩ | ⟨k, q⟩
  · have := h.1
    have h2 : (l.drop i).length = 0 := by rw [q1]; rfl
    rw [List.length_drop] at h2
    omega
  · rw [q] at ey
    have hk := h7 k (List.mem_of_mem_drop (i := i) (by rw [q]; exact List.mem_cons_self ..))
    have e2 : rowM (k :: l.drop (i + 1)) % 8 = k := by
      show (8 * rowM (l.drop (i + 1)) + k) % 8 = k
      omega
    rw [e2] at ey
    exact ⟨k, hk, ey, q⟩
theorem GoI_step {i d : Nat} {fb fb2 : Nat → Int32} (h : GoI D pr dr f0 l pv dv fb (i + 1)) (hR : okR D n pr dr l) (q : l.drop i = d :: l.drop (i + 1)) {st dv2 : Int32} (hs : st = mxI (thD D d pv dv) (D.2.2.2.1 d)) (hd : dv2 = st + D.2.2.1 d) (hf : fb2 = upd fb d st) : GoI D pr dr f0 l (D.2.1 d) dv2 fb2 i := by
  obtain ⟨a, c1, c2, c3⟩ := h
  have hk := okR_drop i l hR
  rw [q] at hk
  have hs2 : st = stD D d (plL D pr (l.drop (i + 1))) (dyL D pr dr (l.drop (i + 1))) := by
    rw [hs, c1, c2]
    exact (stD_inv hk.2.1).2.2.symm
  refine ⟨by omega, by rw [q]; rfl, ?_, ?_⟩
  · rw [q, hd, hs2]; rfl
  · rw [q, hf, hs2, c3]; rfl
end
/-- what a row of a crew is made of -/
theorem KL_ok {D : DT} {n : Nat} (hn : n ≤ 7) {d6 d7 : Nat → Int32} {i q : Nat} {co : Int} {l : List Nat} (h : KL D n d6 d7 i q co l) : l.length = pc7 q ∧ l.length ≤ 7 ∧ (∀ k ∈ l, k < 7) ∧ rowC l < 2097152 ∧ rowM l < 2097152 ∧ okR D n (d6 i) (d7 i) l := by
  rcases h with ⟨e, -, rfl⟩ | ⟨h0, hd, ⟨pt, da, hF⟩, -⟩
  · rw [e]
    exact ⟨by decide, by decide, (fun k hk => by cases hk), by decide, by decide, trivial⟩
  · obtain ⟨a, -, b, c⟩ := FeL_S hn l q pt da co hF
    have p7 := pc7_le q a
    obtain ⟨r1, r2⟩ := FeL_row hn hF
    exact ⟨b.symm, by omega, fun k hk => Nat.lt_of_lt_of_le (c k hk) hn, r1, r2, FeL_okR l q pt da co hF⟩
