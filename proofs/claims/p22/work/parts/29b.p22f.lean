def GvP (K : Nat → Nat → Prop) (n d : Nat) (sts : Nat → Int32) (bd bd2 : Int32) : Prop :=
  bd.toInt ≤ bd2.toInt ∧ (∀ g : Nat → Nat, (∀ i : Nat, i < 4 → sts i = nI (setOf g i d)) → (∀ i : Nat, i < 4 → K i (setOf g i n)) → (cnt g n : Int) ≤ bd2.toInt) ∧
  (bd2 = bd ∨ ∃ g : Nat → Nat, (∀ i : Nat, i < 4 → sts i = nI (setOf g i d)) ∧ (∀ i : Nat, i < 4 → K i (setOf g i n)) ∧ bd2.toInt = (cnt g n : Int))
/-- the sets are those of some giving of the deliveries below d -/
def hasG (sts : Nat → Int32) (d : Nat) : Prop := ∃ g : Nat → Nat, ∀ i : Nat, i < 4 → sts i = nI (setOf g i d)
def put (sts : Nat → Int32) (c d : Nat) : Nat → Int32 := upd sts c (sts c ||| nI (2 ^ d))
theorem nI_or (a b : Nat) : nI a ||| nI b = nI (a ||| b) := by
  apply Int32.toBitVec_inj.mp
  show BitVec.ofNat 32 a ||| BitVec.ofNat 32 b = BitVec.ofNat 32 (a ||| b)
  exact (BitVec.ofNat_or).symm
theorem nI_inj {a b : Nat} (ha : a < 128) (hb : b < 128) (h : nI a = nI b) : a = b := (nI_eq (by omega) (by omega)).mp h
theorem setOf_cg {g g' : Nat → Nat} {i m : Nat} (h : ∀ k : Nat, k < m → g k = g' k) : setOf g i m = setOf g' i m := Nat.eq_of_testBit_eq (fun b => by
  rw [setOf_bit, setOf_bit]
  have : (b < m ∧ g b = i) ↔ (b < m ∧ g' b = i) := ⟨fun q => ⟨q.1, (h b q.1) ▸ q.2⟩, fun q => ⟨q.1, (h b q.1).symm ▸ q.2⟩⟩
  simp only [this])
theorem setOf_s (g : Nat → Nat) (i d : Nat) : setOf g i (d + 1) = if g d = i then setOf g i d ||| (1 <<< d) else setOf g i d := rfl
theorem s128 (g : Nat → Nat) (i : Nat) {d : Nat} (hd : d ≤ 7) : setOf g i d < 128 := lt_128 (setOf_lt g i d) hd
section
variable {g : Nat → Nat} {sts f u f' prev : Nat → Int32} {c d : Nat}
theorem put_g (hg : ∀ i : Nat, i < 4 → sts i = nI (setOf g i d)) (e : g d = c) : ∀ i : Nat, i < 4 → put sts c d i = nI (setOf g i (d + 1)) := by
  intro i hi
  unfold put
  rw [setOf_s]
  by_cases q : i = c
  · rw [q, pk_us, if_pos e, hg c (q ▸ hi), nI_or, Nat.one_shiftLeft]
  · rw [pk_un q, if_neg (fun r => q (r.symm.trans e)), hg i hi]
theorem put_4 (hg : ∀ i : Nat, i < 4 → sts i = nI (setOf g i d)) (e : ¬ g d < 4) : ∀ i : Nat, i < 4 → sts i = nI (setOf g i (d + 1)) := by
  intro i hi
  rw [setOf_s, if_neg (fun r => e (by omega)), hg i hi]
theorem G_put (hG : hasG sts d) (hf : ∀ i : Nat, i < 4 → f i = put sts c d i) : hasG f (d + 1) := by
  obtain ⟨g, hg⟩ := hG
  refine ⟨fun x => if x = d then c else g x, fun i hi => ?_⟩
  rw [hf i hi]
  refine put_g (g := fun x => if x = d then c else g x) (fun i hi => ?_) (if_pos rfl) i hi
  rw [hg i hi, setOf_cg (g := g) (g' := fun x => if x = d then c else g x) (fun k hk => (if_neg (by omega)).symm)]
theorem G_none (hG : hasG sts d) (hf : ∀ i : Nat, i < 4 → f i = sts i) : hasG f (d + 1) := by
  obtain ⟨g, hg⟩ := hG
  refine ⟨fun x => if x = d then 4 else g x, fun i hi => ?_⟩
  rw [hf i hi]
  refine put_4 (g := fun x => if x = d then 4 else g x) (fun i hi => ?_) (by show ¬ (if d = d then 4 else g d) < 4; rw [if_pos rfl]; omega) i hi
  rw [hg i hi, setOf_cg (g := g) (g' := fun x => if x = d then 4 else g x) (fun k hk => (if_neg (by omega)).symm)]
theorem put_of {x y z : Int32} (hprev : ∀ i : Nat, i < 4 → prev i = sts i) (hc : c < 4) (e : f = upd prev c x) (ex : x = y ||| z) (ey : y = prev c) (ez : z = nI (2 ^ d)) : ∀ i : Nat, i < 4 → f i = put sts c d i := by
  intro i hi
  unfold put
  rw [e]
  by_cases q : i = c
  · rw [q, pk_us, pk_us, ex, ey, ez, hprev c hc]
  · rw [pk_un q, pk_un q, hprev i hi]
theorem and_off : ∀ d : Nat, d < 7 → ∀ s : Nat, s < 128 → Nat.testBit s d = false → nI (s ||| 2 ^ d) &&& (nI (2 ^ d) ^^^ (-1)) = nI s := by decide +kernel
theorem gback_of {x y z : Int32} (hd : d < 7) (hc : c < 4) (hG : hasG sts d) (hf : ∀ i : Nat, i < 4 → f i = put sts c d i) (hu : ∀ i : Nat, i < 4 → u i = f i) (e : f' = upd u c x) (ex : x = y &&& z) (ey : y = u c) (ez : z = nI (2 ^ d) ^^^ (-1)) : ∀ i : Nat, i < 4 → f' i = sts i := by
  obtain ⟨g, hg⟩ := hG
  intro i hi
  rw [e]
  by_cases q : i = c
  · rw [q, pk_us, ex, ey, hu c hc, hf c hc, ez]
    unfold put
    rw [pk_us, hg c hc, nI_or]
    exact and_off d hd _ (s128 g c (by omega)) (by rw [setOf_bit]; exact decide_eq_false (fun r => by omega))
  · rw [pk_un q, hu i hi, hf i hi]
    unfold put
    rw [pk_un q]
theorem G_bits {g0 : Nat → Nat} {v : Nat} {i : Nat} (hv : v = setOf g i (d + 1)) (hb : ∀ b : Nat, b < d → Nat.testBit v b = Nat.testBit (setOf g0 i d) b) : setOf g0 i d = setOf g i d := by
  refine Nat.eq_of_testBit_eq (fun b => ?_)
  by_cases q : b < d
  · rw [← hb b q, hv, setOf_bit, setOf_bit]
    have : (b < d + 1 ∧ g b = i) ↔ (b < d ∧ g b = i) := ⟨fun r => ⟨q, r.2⟩, fun r => ⟨by omega, r.2⟩⟩
    simp only [this]
  · rw [setOf_bit, setOf_bit, decide_eq_false (fun r => q r.1), decide_eq_false (fun r => q r.1)]
theorem G_back (hd : d < 7) (hG : hasG sts d) (hp : ∀ i : Nat, i < 4 → put sts c d i = nI (setOf g i (d + 1))) : ∀ i : Nat, i < 4 → sts i = nI (setOf g i d) := by
  obtain ⟨g0, hg⟩ := hG
  intro i hi
  have h := hp i hi
  unfold put at h
  have hl := s128 g i (d := d + 1) (by omega)
  have h0 := s128 g0 i (d := d) (by omega)
  by_cases q : i = c
  · rw [q, pk_us, hg c (q ▸ hi), nI_or, ← Nat.one_shiftLeft] at h
    rw [q] at hl h0 ⊢
    have e := nI_inj (or_e _ h0 d hd).1 hl h
    rw [hg c (q ▸ hi), G_bits e (fun b hb => by rw [tb_or, decide_eq_false (by omega), Bool.or_false])]
  · rw [pk_un q, hg i hi] at h
    rw [hg i hi, G_bits (nI_inj h0 hl h) (fun b hb => rfl)]
theorem G_back4 (hd : d < 7) (hG : hasG sts d) (hp : ∀ i : Nat, i < 4 → sts i = nI (setOf g i (d + 1))) : ∀ i : Nat, i < 4 → sts i = nI (setOf g i d) := by
  obtain ⟨g0, hg⟩ := hG
  intro i hi
  have h := hp i hi
  rw [hg i hi] at h ⊢
  rw [G_bits (nI_inj (s128 g0 i (by omega)) (s128 g i (by omega)) h) (fun b hb => rfl)]
end
theorem GvP_cg {K : Nat → Nat → Prop} {n d : Nat} {sts s' : Nat → Int32} {bd bd2 : Int32} (h : GvP K n d sts bd bd2) (e : ∀ i : Nat, i < 4 → sts i = s' i) : GvP K n d s' bd bd2 := by
  refine ⟨h.1, fun g hg hk => h.2.1 g (fun i hi => (e i hi).trans (hg i hi)) hk, h.2.2.imp id (fun ⟨g, a, b⟩ => ⟨g, fun i hi => (e i hi).symm.trans (a i hi), b⟩)⟩
theorem GvP_step {K : Nat → Nat → Prop} {n d : Nat} {sts : Nat → Int32} {b0 b1 b2 b3 b4 b5 : Int32} (hd : d < 7) (hG : hasG sts d) (h0 : GvP K n (d + 1) (put sts 0 d) b0 b1) (h1 : GvP K n (d + 1) (put sts 1 d) b1 b2) (h2 : GvP K n (d + 1) (put sts 2 d) b2 b3) (h3 : GvP K n (d + 1) (put sts 3 d) b3 b4) (h4 : GvP K n (d + 1) sts b4 b5) : GvP K n d sts b0 b5 := by
  have l0 := h0.1
  have l1 := h1.1
  have l2 := h2.1
  have l3 := h3.1
  have l4 := h4.1
  refine ⟨by omega, fun g hg hk => ?_, ?_⟩
  · by_cases q : g d < 4
    · rcases (show g d = 0 ∨ g d = 1 ∨ g d = 2 ∨ g d = 3 by omega) with e | e | e | e
      · have := h0.2.1 g (put_g hg e) hk; omega
      · have := h1.2.1 g (put_g hg e) hk; omega
      · have := h2.2.1 g (put_g hg e) hk; omega
      · have := h3.2.1 g (put_g hg e) hk; omega
    · exact h4.2.1 g (put_4 hg q) hk
  · rcases h4.2.2 with e4 | ⟨g, a, b⟩
    · rcases h3.2.2 with e3 | ⟨g, a, b⟩
      · rcases h2.2.2 with e2 | ⟨g, a, b⟩
        · rcases h1.2.2 with e1 | ⟨g, a, b⟩
          · rcases h0.2.2 with e0 | ⟨g, a, b⟩
            · exact Or.inl (by rw [e4, e3, e2, e1, e0])
            · exact Or.inr ⟨g, G_back hd hG a, by rw [e4, e3, e2, e1]; exact b⟩
          · exact Or.inr ⟨g, G_back hd hG a, by rw [e4, e3, e2]; exact b⟩
        · exact Or.inr ⟨g, G_back hd hG a, by rw [e4, e3]; exact b⟩
      · exact Or.inr ⟨g, G_back hd hG a, by rw [e4]; exact b⟩
    · exact Or.inr ⟨g, G_back4 hd hG a, b⟩
theorem GvP_inf {K : Nat → Nat → Prop} {n : Nat} {sts : Nat → Int32} {bd : Int32} {c w : Nat} (hn : n ≤ 7) (hc : c < 4) (hs : nI w = sts c) (hw : w < 128) (hK : ¬ K c w) : GvP K n n sts bd bd := by
  refine ⟨Int.le_refl _, fun g hg hk => absurd ?_ hK, Or.inl rfl⟩
  rw [nI_inj hw (s128 g c hn) (hs.trans (hg c hc))]
  exact hk c hc
theorem GvP_leaf {K : Nat → Nat → Prop} {n : Nat} {sts : Nat → Int32} {bd bd2 : Int32} {w0 w1 w2 w3 m : Nat} (hn : n ≤ 7) (hG : hasG sts n) (e0 : nI w0 = sts 0) (e1 : nI w1 = sts 1) (e2 : nI w2 = sts 2) (e3 : nI w3 = sts 3) (a0 : w0 < 128) (a1 : w1 < 128) (a2 : w2 < 128) (a3 : w3 < 128) (k0 : K 0 w0) (k1 : K 1 w1) (k2 : K 2 w2) (k3 : K 3 w3) (hm : m = pc7 w0 + pc7 w1 + pc7 w2 + pc7 w3) (h : (bd2 = bd ∧ (m : Int) ≤ bd.toInt) ∨ (bd2 = nI m ∧ bd.toInt ≤ (m : Int))) : GvP K n n sts bd bd2 := by
  have p0 := pc7_le w0 a0
  have p1 := pc7_le w1 a1
  have p2 := pc7_le w2 a2
  have p3 := pc7_le w3 a3
  have cn : ∀ g : Nat → Nat, (∀ i : Nat, i < 4 → sts i = nI (setOf g i n)) → cnt g n = m := by
    intro g hg
    rw [hm, ← pc_sum g n hn, nI_inj a0 (s128 g 0 hn) (e0.trans (hg 0 (by decide))), nI_inj a1 (s128 g 1 hn) (e1.trans (hg 1 (by decide))), nI_inj a2 (s128 g 2 hn) (e2.trans (hg 2 (by decide))), nI_inj a3 (s128 g 3 hn) (e3.trans (hg 3 (by decide)))]
  have mi : (nI m).toInt = (m : Int) := nI_toInt (by omega)
  refine ⟨?_, fun g hg _ => ?_, ?_⟩
  · rcases h with ⟨q, _⟩ | ⟨q, r⟩
    · rw [q]; exact Int.le_refl _
    · rw [q, mi]; exact r
  · rw [cn g hg]
    rcases h with ⟨q, r⟩ | ⟨q, _⟩
    · rw [q]; exact r
    · rw [q, mi]; exact Int.le_refl _
  · rcases h with ⟨q, _⟩ | ⟨q, _⟩
    · exact Or.inl q
    · obtain ⟨g, hg⟩ := hG
      refine Or.inr ⟨g, hg, ?_, by rw [q, mi, cn g hg]⟩
      intro i hi
      rcases (show i = 0 ∨ i = 1 ∨ i = 2 ∨ i = 3 by omega) with rfl | rfl | rfl | rfl
      · rw [← nI_inj a0 (s128 g 0 hn) (e0.trans (hg 0 (by decide)))]; exact k0
      · rw [← nI_inj a1 (s128 g 1 hn) (e1.trans (hg 1 (by decide)))]; exact k1
      · rw [← nI_inj a2 (s128 g 2 hn) (e2.trans (hg 2 (by decide)))]; exact k2
      · rw [← nI_inj a3 (s128 g 3 hn) (e3.trans (hg 3 (by decide)))]; exact k3
theorem pc_and : ∀ b : Nat, b < 128 → 0 < b → (b &&& (b - 1)) < 128 ∧ pc7 (b &&& (b - 1)) + 1 = pc7 b := by decide +kernel
/-- the best giving is the largest set that can be done -/
theorem MaxP_gv {K : Nat → Nat → Prop} {n : Nat} {sts : Nat → Int32} {bd2 : Int32} (hn : n ≤ 7) (hs : ∀ i : Nat, i < 4 → sts i = 0) (hK0 : ∀ i : Nat, K i 0) (hKn : ∀ i q : Nat, K i q → q < 2 ^ n) (h : GvP K n 0 sts (-1) bd2) : MaxP K (2 ^ n - 1) bd2 := by
  obtain ⟨-, a, b⟩ := h
  have z : ∀ g : Nat → Nat, ∀ i : Nat, i < 4 → sts i = nI (setOf g i 0) := fun g i hi => hs i hi
  have p2 : 0 < 2 ^ n := Nat.pow_pos (by decide)
  have low : ∀ g : Nat → Nat, (∀ i : Nat, i < 4 → K i (setOf g i 7)) → ∀ d : Nat, d < 7 → g d < 4 → d < n := by
    intro g hg d hd hq
    rcases Nat.lt_or_ge d n with r | r
    · exact r
    · have hb := setOf_bit g (g d) 7 d
      rw [decide_eq_true ⟨hd, rfl⟩, Nat.testBit_lt_two_pow (Nat.lt_of_lt_of_le (hKn _ _ (hg (g d) hq)) (Nat.pow_le_pow_right (n := 2) (by decide) r))] at hb
      cases hb
  have same : ∀ g : Nat → Nat, (∀ d : Nat, d < 7 → g d < 4 → d < n) → ∀ i : Nat, i < 4 → setOf g i 7 = setOf g i n := by
    intro g hg i hi
    refine Nat.eq_of_testBit_eq (fun d => ?_)
    rw [setOf_bit, setOf_bit]
    have : (d < 7 ∧ g d = i) ↔ (d < n ∧ g d = i) := ⟨fun q => ⟨hg d q.1 (by omega), q.2⟩, fun q => ⟨by omega, q.2⟩⟩
    simp only [this]
  have sameU : ∀ g : Nat → Nat, (∀ d : Nat, d < 7 → g d < 4 → d < n) → unOf g 4 7 = unOf g 4 n := by
    intro g hg
    refine Nat.eq_of_testBit_eq (fun d => ?_)
    rw [unOf_bit, unOf_bit]
    have : (d < 7 ∧ g d < 4) ↔ (d < n ∧ g d < 4) := ⟨fun q => ⟨hg d q.1 q.2, q.2⟩, fun q => ⟨by omega, q.2⟩⟩
    simp only [this]
  have up : ∀ T : Nat, RR K 4 T → (pc7 T : Int) ≤ bd2.toInt := by
    intro T hT
    obtain ⟨g, e, hg⟩ := hT
    have lw := low g hg
    have := a g (z g) (fun i hi => by rw [← same g lw i hi]; exact hg i hi)
    rw [e, sameU g lw, pc_unOf g n hn]
    exact this
  rcases b with e | ⟨g, -, hk, e⟩
  · have := up 0 (RR_zero hK0 4)
    rw [e] at this
    exact absurd this (by decide)
  · have hg7 : ∃ g' : Nat → Nat, (∀ d : Nat, d < 7 → g' d < 4 → d < n) ∧ (∀ i : Nat, i < 4 → setOf g' i n = setOf g i n) ∧ cnt g' n = cnt g n := by
      refine ⟨fun d => if d < n then g d else 9, fun d hd q => ?_, fun i hi => setOf_cg (fun k hk => if_pos hk), ?_⟩
      · rcases Nat.lt_or_ge d n with r | r
        · exact r
        · have q2 : (if d < n then g d else 9) < 4 := q
          rw [if_neg (by omega)] at q2; omega
      · have s : ∀ i : Nat, setOf (fun d => if d < n then g d else 9) i n = setOf g i n := fun i => setOf_cg (fun k hk => if_pos hk)
        rw [← pc_sum _ n hn, ← pc_sum g n hn, s 0, s 1, s 2, s 3]
    obtain ⟨g', lw, hs', hc'⟩ := hg7
    have hR : RR K 4 (unOf g' 4 7) := ⟨g', rfl, fun i hi => by rw [same g' lw i hi, hs' i hi]; exact hk i hi⟩
    have hp : pc7 (unOf g' 4 7) = cnt g n := by rw [sameU g' lw, pc_unOf g' n hn, hc']
    have h7 := pc7_le _ (RR_le hR)
    refine ⟨cnt g n, by omega, (ii_eq _ _).mpr (by rw [e, nI_toInt (by omega)]), fun T hT hR2 => ?_, unOf g' 4 7, ?_, hR, hp⟩
    · have := up T hR2
      omega
    · rw [sameU g' lw]
      have := unOf_lt g' 4 n
      omega
theorem gv_lt {m : Nat} {bd : Int32} (hm : m < 2 ^ 31) (c : nI m < bd) : (m : Int) ≤ bd.toInt := by
  rw [ii_lt, nI_toInt hm] at c
  omega
theorem gv_eq {m : Nat} {bd : Int32} (hm : m < 2 ^ 31) (c : nI m = bd) : (m : Int) ≤ bd.toInt := by
  rw [← c, nI_toInt hm]
  exact Int.le_refl _
theorem gv_ge {m : Nat} {bd : Int32} (hm : m < 2 ^ 31) (c : ¬ nI m < bd) : bd.toInt ≤ (m : Int) := by
  have h := (ii_le _ _).mp (Int32.not_lt.mp c)
  rw [nI_toInt hm] at h
  exact h
