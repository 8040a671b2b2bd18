theorem vin_cl {x : Int32} {n : Nat} (h : vp_in x n) : x.toNatClampNeg < n := Nat.not_le.mp (fun q => h (Or.inr q))
theorem all_upd {P : Int32 → Prop} {n i : Nat} {f : Nat → Int32} {v : Int32} (h : ∀ k : Nat, k < n → P (f k)) (hv : P v) : ∀ k : Nat, k < n → P (upd f i v k) := by
  intro k hk
  by_cases e : k = i
  · rw [e, pk_us]; exact hv
  · rw [pk_un e]; exact h k hk
theorem inR_mk {w n : Nat} {hi : Int32} (hn : hi.toInt = n) (h : w ≤ n) : inR (nI w) 0 hi = true := by
  have h2 := Int32.toInt_lt hi
  have h3 : w < 2 ^ 31 := by omega
  exact inR_t.mpr ⟨nI_pos' h3, (ii_le _ _).mpr (by rw [nI_toInt h3]; omega)⟩
theorem inR_le {w n : Nat} {hi : Int32} (hn : hi.toInt = n) (hw : w < 2 ^ 31) (h : inR (nI w) 0 hi = true) : w ≤ n := by
  have h2 := (ii_le _ _).mp (inR_t.mp h).2
  rw [nI_toInt hw] at h2
  omega
theorem inR_mono {x : Int32} {a b : Nat} (h : inR x 0 (nI a) = true) (hab : a ≤ b) (hb : b < 2 ^ 31) : inR x 0 (nI b) = true := by
  obtain ⟨h1, h2⟩ := inR_t.mp h
  exact inR_t.mpr ⟨h1, Int32.le_trans h2 (nI_le hab hb)⟩
theorem isPl_nI {x : Int32} (h : isPl x = true) : ∃ p : Nat, p < 3000 ∧ p % 100 < 20 ∧ x = nI p := by
  unfold isPl at h
  rw [Bool.and_eq_true, Bool.and_eq_true] at h
  obtain ⟨h0, h1, h2⟩ := h
  obtain ⟨j, hj, rfl⟩ := nI_of (Int32.not_lt.mpr (of_decide_eq_true h0))
  have e1 : nI j / 100 = nI (j / 100) := pk_div (d := 100) hj (by decide) (by decide)
  have e2 : nI j - nI j / 100 * 100 = nI (j % 100) := pk_rem (d := 100) hj (by decide) (by decide)
  rw [e2] at h2
  rw [e1] at h1
  have a := inR_le (n := 29) (by decide) (by omega) h1
  have b := inR_le (n := 19) (by decide) (by omega) h2
  exact ⟨j, by omega, by omega, rfl⟩
theorem isPl_mk {p : Nat} (h1 : p < 3000) (h2 : p % 100 < 20) : isPl (nI p) = true := by
  have e1 : nI p / 100 = nI (p / 100) := pk_div (d := 100) (by omega) (by decide) (by decide)
  have e2 : nI p - nI p / 100 * 100 = nI (p % 100) := pk_rem (d := 100) (by omega) (by decide) (by decide)
  unfold isPl
  rw [e2, e1, inR_mk (n := 29) (by decide) (by omega), inR_mk (n := 19) (by decide) (by omega), decide_eq_true (nI_pos' (by omega))]
  rfl
def okE (h r : Int32) : Prop := ∃ p : Nat, h = nI p ∧ p < 3000 ∧ p % 100 < 20 ∧ ((r = 1 ∧ p / 100 < 29) ∨ (r = -1 ∧ 0 < p / 100) ∨ r = 0)
def okS (h r : Int32) : Prop := ∃ p : Nat, h = nI p ∧ p < 3000 ∧ p % 100 < 20 ∧ ((r = 1 ∧ p % 100 < 19) ∨ (r = -1 ∧ 0 < p % 100) ∨ r = 0)
theorem add_neg {a b : Nat} {c : Int32} (hc : c = 0 - nI b) (h : b ≤ a) : nI a + c = nI (a - b) := by
  rw [← pk_sub h, hc, Int32.zero_sub, Int32.sub_eq_add_neg]
theorem step_ok {h r1 r2 : Int32} (h1 : okE h r1) (h2 : okS h r2) : isPl (h + (100 * r1 + r2)) = true := by
  obtain ⟨p, rfl, p1, p2, h1⟩ := h1
  obtain ⟨p', e, _, _, h2⟩ := h2
  have e := (nI_eq (by omega) (by omega)).mp e
  subst e
  rcases h1 with ⟨rfl, a⟩ | ⟨rfl, a⟩ | rfl <;> rcases h2 with ⟨rfl, b⟩ | ⟨rfl, b⟩ | rfl
  · rw [show (100 * 1 + 1 : Int32) = nI 101 by decide, nI_add]; exact isPl_mk (by omega) (by omega)
  · rw [show (100 * 1 + -1 : Int32) = nI 99 by decide, nI_add]; exact isPl_mk (by omega) (by omega)
  · rw [show (100 * 1 + 0 : Int32) = nI 100 by decide, nI_add]; exact isPl_mk (by omega) (by omega)
  · rw [add_neg (b := 99) (by decide) (by omega)]; exact isPl_mk (by omega) (by omega)
  · rw [add_neg (b := 101) (by decide) (by omega)]; exact isPl_mk (by omega) (by omega)
  · rw [add_neg (b := 100) (by decide) (by omega)]; exact isPl_mk (by omega) (by omega)
  · rw [show (100 * 0 + 1 : Int32) = nI 1 by decide, nI_add]; exact isPl_mk (by omega) (by omega)
  · rw [add_neg (b := 1) (by decide) (by omega)]; exact isPl_mk (by omega) (by omega)
  · rw [show (100 * 0 + 0 : Int32) = nI 0 by decide, nI_add]; exact isPl_mk (by omega) (by omega)
def sgn3 (x r : Int32) : Prop := (r = 1 ∧ 0 < x) ∨ (r = -1 ∧ x < 0) ∨ r = 0
theorem sub_pos {a b : Nat} (ha : a < 4000) (hb : b < 4000) (h : 0 < nI a - nI b) : b < a := by
  rcases Nat.lt_or_ge b a with q | q
  · exact q
  · have e : nI a - nI b = 0 - nI (b - a) := by
      rw [← pk_sub q]
      apply Int32.toBitVec_inj.mp
      simp
    have h' := (ii_lt _ _).mp h
    rw [e, Int32.toInt_sub, nI_toInt (by omega)] at h'
    simp at h'
    rw [Int.bmod_eq_of_le] at h' <;> omega
theorem sub_neg' {a b : Nat} (ha : a < 4000) (hb : b < 4000) (h : nI a - nI b < 0) : a < b := by
  rcases Nat.lt_or_ge a b with q | q
  · exact q
  · rw [pk_sub q] at h
    have h' := (ii_lt _ _).mp h
    rw [nI_toInt (by omega)] at h'
    simp at h'
    omega
theorem okE_of {h x r : Int32} {w p : Nat} (e : nI p = h) (hp1 : p < 3000) (hp2 : p % 100 < 20) (hw1 : w < 3000) (hx : x = nI (w / 100) - nI (p / 100)) (hr : sgn3 x r) : okE h r := by
  refine ⟨p, e.symm, hp1, hp2, ?_⟩
  subst hx
  rcases hr with ⟨a, b⟩ | ⟨a, b⟩ | a
  · exact Or.inl ⟨a, by have := sub_pos (by omega) (by omega) b; omega⟩
  · exact Or.inr (Or.inl ⟨a, by have := sub_neg' (by omega) (by omega) b; omega⟩)
  · exact Or.inr (Or.inr a)
theorem okS_of {h x r : Int32} {w p : Nat} (e : nI p = h) (hp1 : p < 3000) (hp2 : p % 100 < 20) (hw2 : w % 100 < 20) (hx : x = nI (w % 100) - nI (p % 100)) (hr : sgn3 x r) : okS h r := by
  refine ⟨p, e.symm, hp1, hp2, ?_⟩
  subst hx
  rcases hr with ⟨a, b⟩ | ⟨a, b⟩ | a
  · exact Or.inl ⟨a, by have := sub_pos (by omega) (by omega) b; omega⟩
  · exact Or.inr (Or.inl ⟨a, by have := sub_neg' (by omega) (by omega) b; omega⟩)
  · exact Or.inr (Or.inr a)
theorem ang_all : ∀ c, c < 8 → ∀ w, w < 8 → ((nI c - nI w + 8) - (nI c - nI w + 8) / 8 * 8).toBitVec.toNat < 8 := by decide +kernel
theorem of_tn {x : Int32} {n : Nat} (h : x.toBitVec.toNat < n) (hn : n < 2 ^ 31) : ∃ w, w < n ∧ x = nI w := by
  refine ⟨x.toBitVec.toNat, h, ?_⟩
  apply Int32.toBitVec_inj.mp
  apply BitVec.eq_of_toNat_eq
  rw [pk_tn (by omega)]
theorem angle {c w : Nat} (hc : c ≤ 7) (hw : w ≤ 7) : ∃ a, a < 8 ∧ (nI c - nI w + 8) - (nI c - nI w + 8) / 8 * 8 = nI a := of_tn (ang_all c (by omega) w (by omega)) (by decide)
theorem go_dec9 {go g1 g2 : Int32} {n0 : Nat} (hn : go.toInt.toNat < n0 + 1) (c : ¬ go ≤ 9) (e : g1 = go - 10) (h : g2 = g1 ∨ g2 = 0) : g2.toInt.toNat < n0 := by
  have a := (ii_lt _ _).mp (Int32.not_le.mp c)
  have h3 := Int32.toInt_lt go
  simp at a
  subst e
  rcases h with rfl | rfl
  · rw [Int32.toInt_sub]
    simp
    rw [Int.bmod_eq_of_le] <;> omega
  · simp
    omega
def bc7 (s : Nat) : Nat := (List.range 7).foldl (fun n k => n + s / 2 ^ k % 2) 0
theorem tr_bit_all : ∀ s, s < 128 → ∀ k, k < 7 → ¬ ((nI s >>> (nI k &&& 31)) &&& 1 = 1) → (nI s ||| ((1 : Int32) <<< (nI k &&& 31))).toBitVec.toNat < 128 ∧ bc7 (nI s ||| ((1 : Int32) <<< (nI k &&& 31))).toBitVec.toNat = bc7 s + 1 := by decide +kernel
theorem tr_bit {s k L : Nat} (hs : s < 128) (hk : k < 7) (hb : bc7 s = L) (c : ¬ ((nI s >>> (nI k &&& 31)) &&& 1 = 1)) : ∃ w, w < 128 ∧ bc7 w = L + 1 ∧ nI s ||| ((1 : Int32) <<< (nI k &&& 31)) = nI w := by
  obtain ⟨h1, h2⟩ := tr_bit_all s hs k hk c
  refine ⟨_, h1, by rw [h2, hb], ?_⟩
  apply Int32.toBitVec_inj.mp
  apply BitVec.eq_of_toNat_eq
  rw [pk_tn (by omega)]
theorem tr_all7 : ∀ s, s < 128 → bc7 s = 7 → ∀ k, k < 7 → (nI s >>> (nI k &&& 31)) &&& 1 = 1 := by decide +kernel
def dg (n L : Nat) : Prop := n < 8 ^ L ∧ ∀ i, i < 7 → n / 8 ^ i % 8 < 7
def digOK (x : Int32) : Prop := ∃ n : Nat, x = nI n ∧ dg n 7
theorem dg0 (L : Nat) : dg 0 L := ⟨Nat.pow_pos (by decide), fun i _ => by simp⟩
theorem dg_step {n k L : Nat} (h : dg n L) (hk : k < 7) : dg (8 * n + k) (L + 1) := by
  refine ⟨by have := h.1; rw [Nat.pow_succ]; omega, fun i hi => ?_⟩
  cases i with
  | zero => simp; omega
  | succ j =>
    have h2 := h.2 j (by omega)
    rw [Nat.pow_succ, Nat.mul_comm (8 ^ j) 8, ← Nat.div_div_eq_div_mul, show (8 * n + k) / 8 = n by omega]
    exact h2
theorem dg_OK {n L : Nat} (h : dg n L) (hL : L ≤ 7) : digOK (nI n) := ⟨n, rfl, Nat.lt_of_lt_of_le h.1 (Nat.pow_le_pow_right (by decide) hL), h.2⟩
theorem sh_all : ∀ i, i < 7 → ((nI (3 * i) &&& 31).toBitVec.smod 32).toNat = 3 * i := by decide +kernel
theorem dig_at {r : Int32} {i : Nat} (h : digOK r) (hi : i < 7) : ∃ d, d < 7 ∧ (r >>> (nI (3 * i) &&& 31)) &&& 7 = nI d := by
  obtain ⟨n, rfl, hn, hd⟩ := h
  have hn' : n < 2 ^ 21 := by have : (8 : Nat) ^ 7 = 2 ^ 21 := by decide
                              omega
  rw [pk_shrN (by omega) _ (3 * i) (sh_all i hi)]
  have hle : n / 2 ^ (3 * i) ≤ n := Nat.div_le_self _ _
  rw [pk_andN (by omega) 3 (by decide)]
  refine ⟨_, ?_, rfl⟩
  have h3 := hd i hi
  rw [Nat.pow_mul]
  exact h3
theorem zz_of {zz : Int32} {z : Nat} (h : zz = nI z - 1) (c : ¬ zz < 0) : ∃ y, y + 1 = z ∧ zz = nI y := by
  cases z with
  | zero => exact absurd (show zz < 0 by rw [h]; decide) c
  | succ k => exact ⟨k, rfl, by rw [h]; exact nI_pred k⟩
theorem add_m1 (x : Int32) : x + (-1) = x - 1 := by rw [Int32.sub_eq_add_neg]
theorem cp_nI {x : Int32} (h : inR x (-1) 9 = true) (c : ¬ x = -1) : ∃ w, w ≤ 9 ∧ x = nI w := by
  obtain ⟨h1, h2⟩ := inR_t.mp h
  refine nI_of2 (M := 9) (n := 9) (by decide) (fun hc => c ?_) h2
  have a := (ii_le _ _).mp h1
  have b := (ii_lt _ _).mp hc
  apply Int32.toInt_inj.mp
  simp at a b ⊢
  omega
theorem cp_of {x : Int32} (h : inR x 0 9 = true) : inR x (-1) 9 = true := by
  obtain ⟨h1, h2⟩ := inR_t.mp h
  exact inR_t.mpr ⟨Int32.le_trans (by decide) h1, h2⟩
theorem lt_of_nle {a b : Nat} (hb : b < 2 ^ 31) (c : ¬ nI a ≤ nI b) : b < a := by
  rcases Nat.lt_or_ge b a with q | q
  · exact q
  · exact absurd (nI_le q hb) c
theorem or_lt7 : ∀ w, w < 128 → ∀ d, d < 7 → inR (nI w ||| nI (2 ^ d)) 0 127 = true := by decide +kernel
theorem and_lt7 : ∀ w, w < 128 → ∀ d, d < 7 → inR (nI w &&& (nI (2 ^ d) ^^^ (-1))) 0 127 = true := by decide +kernel
theorem pl_ixM {w : Int32} {a on K : Nat} {lo : Int32} (h : inR w lo (nI (K + on)) = true) (hon : on ≤ 7) (hK : K + 1 = a) (ha : a ≤ 100) (hlo : lo = nI a) : vp_in (w - lo) 7 := by
  rcases Nat.eq_zero_or_pos on with q | q
  · obtain ⟨h0, h1⟩ := inR_t.mp h
    have a0 := (ii_le _ _).mp h0
    have a1 := (ii_le _ _).mp h1
    rw [hlo, nI_toInt (by omega)] at a0
    rw [nI_toInt (by omega)] at a1
    omega
  · exact (ixS h (a := a) hlo (b := K + on) (nI_toInt (by omega)) (by omega) (by omega) (by decide)).1
