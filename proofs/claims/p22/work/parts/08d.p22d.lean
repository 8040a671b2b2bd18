def Rch (fj : Nat → Int64) (S : Nat) : Prop := fj S < 1152921504606846976
def bdL (B : Int) (x : Int64) : Prop := x = 1152921504606846976 ∨ (-B ≤ x.toInt ∧ x.toInt ≤ B)
def okL (B : Int) (fj : Nat → Int64) : Prop := ∀ S : Nat, S < 128 → bdL B (fj S)
theorem bdL_up {B B' : Int} {x : Int64} (h : bdL B x) (hB : B ≤ B') : bdL B' x := h.imp id (fun q => ⟨by omega, by omega⟩)
theorem un_i : (1152921504606846976 : Int64).toInt = 1152921504606846976 := by decide
theorem addL {x y : Int64} {a b : Int} (hx : x.toInt = a) (hy : y.toInt = b) (h0 : -9223372036854775808 ≤ a + b) (h1 : a + b ≤ 9223372036854775807) : (x + y).toInt = a + b := by
  rw [Int64.toInt_add, hx, hy, Int.bmod_eq_of_le] <;> omega
theorem mulL {x y : Int64} {a b : Int} (hx : x.toInt = a) (hy : y.toInt = b) (h0 : -9223372036854775808 ≤ a * b) (h1 : a * b ≤ 9223372036854775807) : (x * y).toInt = a * b := by
  rw [Int64.toInt_mul, hx, hy, Int.bmod_eq_of_le] <;> omega
/-- what a crew's part adds is small, whatever the cost -/
theorem val_bd {B : Int} (hB0 : 0 ≤ B) (hB1 : B ≤ 1000000000000000) {u w v : Int64} {cost : Int32} {cr : Nat} (hcr : cr < 4) (hu : bdL B u) (hlt : u < 1152921504606846976) (hw : -20000 ≤ w.toInt ∧ w.toInt ≤ 20000) (hv : v = u + cost.toInt64 * 78125 + (nI cr).toInt64 * w) : v < 1152921504606846976 ∧ (-(B + 200000000000000) ≤ v.toInt ∧ v.toInt ≤ B + 200000000000000) := by
  have hu2 : -B ≤ u.toInt ∧ u.toInt ≤ B := by
    rcases hu with q | q
    · rw [q] at hlt
      exact absurd hlt (fun h => Int64.lt_irrefl h)
    · exact q
  have c0 := Int32.le_toInt cost
  have c1 := Int32.toInt_lt cost
  have ec : cost.toInt64.toInt = cost.toInt := Int32.toInt_toInt64 cost
  have e1 := mulL (x := cost.toInt64) (y := 78125) ec (b := 78125) (by decide) (by omega) (by omega)
  have en : (nI cr).toInt64.toInt = (cr : Int) := by rw [Int32.toInt_toInt64, nI_toInt (by omega)]
  have e2 : ((nI cr).toInt64 * w).toInt = (cr : Int) * w.toInt ∧ -60000 ≤ (cr : Int) * w.toInt ∧ (cr : Int) * w.toInt ≤ 60000 := by
    rcases (show cr = 0 ∨ cr = 1 ∨ cr = 2 ∨ cr = 3 by omega) with rfl | rfl | rfl | rfl <;> refine ⟨mulL en rfl ?_ ?_, ?_, ?_⟩ <;> omega
  have e3 := addL (x := u) (y := cost.toInt64 * 78125) rfl e1 (by omega) (by omega)
  have e4 := addL (x := u + cost.toInt64 * 78125) (y := (nI cr).toInt64 * w) e3 e2.1 (by omega) (by omega)
  rw [← hv] at e4
  refine ⟨?_, by omega, by omega⟩
  rw [Int64.lt_iff_toInt_lt, un_i]
  omega
def mnL (x y : Int64) : Int64 := if y < x then y else x
theorem mnL_lt {x y z : Int64} (h : y < z) : mnL x y < z := by
  unfold mnL
  by_cases q : y < x
  · rw [if_pos q]; exact h
  · rw [if_neg q]
    rw [Int64.lt_iff_toInt_lt] at h q ⊢
    omega
theorem mnL_bd {B : Int} {x y : Int64} (hy : -B ≤ y.toInt ∧ y.toInt ≤ B) (hx : bdL B x) (hlt : y < 1152921504606846976) : bdL B (mnL x y) := by
  unfold mnL
  by_cases q : y < x
  · rw [if_pos q]; exact Or.inr hy
  · rw [if_neg q]; exact hx
theorem xor_sub {T q : Nat} (h : q &&& T = q) : T ^^^ q ≤ T := by
  have e : (T ^^^ q) &&& T = T ^^^ q := Nat.eq_of_testBit_eq (fun d => by
    rw [Nat.testBit_and, Nat.testBit_xor]
    have hb : (Nat.testBit q d && Nat.testBit T d) = Nat.testBit q d := by rw [← Nat.testBit_and, h]
    cases a : Nat.testBit T d <;> cases b : Nat.testBit q d <;> rw [a, b] at hb <;> first | rfl | cases hb)
  rw [← e]
  exact Nat.and_le_right
theorem xor_ne {T q : Nat} (h0 : 0 < q) : T ^^^ q ≠ T := fun e => by
  have h2 : T ^^^ (T ^^^ q) = T ^^^ T := by rw [e]
  rw [← Nat.xor_assoc, Nat.xor_self, Nat.zero_xor] at h2
  omega
/-- T is come to by this crew's and the earlier ones' parts -/
def JN (c1 : Nat → Int32) (cr : Nat) (fj : Nat → Int64) (T : Nat) : Prop := Rch fj T ∨ ∃ q : Nat, 0 < q ∧ q &&& T = q ∧ (¬ c1 (cr * 128 + q) = -1) ∧ Rch fj (T ^^^ q)
/-- the inner loop: parts above pv are done with -/
def J2I (B : Int) (c1 : Nat → Int32) (cr : Nat) (fA fj : Nat → Int64) (sv pv : Nat) : Prop :=
  (∀ T : Nat, T ≠ sv → fj T = fA T) ∧ pv &&& sv = pv ∧ (Rch fj sv ↔ Rch fA sv ∨ ∃ q : Nat, pv < q ∧ q &&& sv = q ∧ (¬ c1 (cr * 128 + q) = -1) ∧ Rch fA (sv ^^^ q)) ∧ bdL (B + 200000000000000) (fj sv) ∧ ∀ T : Nat, T ≤ sv → bdL B (fA T)
section
variable {B : Int} {c1 : Nat → Int32} {cr : Nat} {fA fj : Nat → Int64} {sv pv : Nat}
theorem J2_0 (hA : ∀ T : Nat, T ≤ sv → bdL B (fA T)) : J2I B c1 cr fA fA sv sv := by
  refine ⟨fun _ _ => rfl, Nat.and_self _, ⟨Or.inl, fun h => h.elim id (fun ⟨q, a, b, _⟩ => ?_)⟩, bdL_up (hA sv (Nat.le_refl _)) (by omega), hA⟩
  have : q ≤ sv := by rw [← b]; exact Nat.and_le_right
  omega
theorem J2_sub (h : J2I B c1 cr fA fj sv pv) : ((pv - 1) &&& sv) &&& sv = (pv - 1) &&& sv := by rw [Nat.and_assoc, Nat.and_self]
theorem J2_q (h : J2I B c1 cr fA fj sv pv) (hs : sv < 128) {q : Nat} (hq : q &&& sv = q) (hlt : (pv - 1) &&& sv < q) : pv ≤ q := by
  rcases Nat.lt_or_ge q pv with r | r
  · have := sub_next 7 sv pv q hs h.2.1 hq r
    omega
  · exact r
theorem J2_lt (h0 : 0 < pv) : (pv - 1) &&& sv < pv := by
  have := @Nat.and_le_left (pv - 1) sv
  omega
theorem J2_no (h : J2I B c1 cr fA fj sv pv) (hs : sv < 128) (h0 : 0 < pv) (hn : c1 (cr * 128 + pv) = -1 ∨ ¬ Rch fA (sv ^^^ pv)) : J2I B c1 cr fA fj sv ((pv - 1) &&& sv) := by
  refine ⟨h.1, J2_sub h, ?_, h.2.2.2.1, h.2.2.2.2⟩
  rw [h.2.2.1]
  refine ⟨fun q => q.imp id (fun ⟨r, a, b⟩ => ⟨r, by have := @J2_lt sv pv h0; omega, b⟩), fun q => q.imp id (fun ⟨r, a, b, c, d⟩ => ⟨r, ?_, b, c, d⟩)⟩
  have h1 := J2_q h hs b a
  rcases Nat.lt_or_ge pv r with t | t
  · exact t
  · have e : r = pv := by omega
    rw [e] at c d
    rcases hn with x | x
    · exact absurd x c
    · exact absurd d x
theorem J2_yes (h : J2I B c1 cr fA fj sv pv) (hs : sv < 128) (h0 : 0 < pv) (hc : ¬ c1 (cr * 128 + pv) = -1) (hr : Rch fA (sv ^^^ pv)) {v : Int64} (hv : v < 1152921504606846976 ∧ (-(B + 200000000000000) ≤ v.toInt ∧ v.toInt ≤ B + 200000000000000)) {fn : Nat → Int64} (hf : fn = vp_updL fj sv (mnL (fj sv) v)) : J2I B c1 cr fA fn sv ((pv - 1) &&& sv) := by
  subst hf
  refine ⟨fun T hT => by rw [pk_uLn hT]; exact h.1 T hT, J2_sub h, ?_, by rw [pk_uLs]; exact mnL_bd hv.2 h.2.2.2.1 hv.1, h.2.2.2.2⟩
  refine ⟨fun _ => Or.inr ⟨pv, J2_lt h0, h.2.1, hc, hr⟩, fun _ => ?_⟩
  unfold Rch
  rw [pk_uLs]
  exact mnL_lt hv.1
theorem J2_rd (h : J2I B c1 cr fA fj sv pv) (h0 : 0 < pv) : fj (sv ^^^ pv) = fA (sv ^^^ pv) ∧ bdL B (fA (sv ^^^ pv)) := ⟨h.1 _ (xor_ne h0), h.2.2.2.2 _ (xor_sub h.2.1)⟩
theorem J2_end (h : J2I B c1 cr fA fj sv pv) (h0 : pv = 0) : (∀ T : Nat, T ≠ sv → fj T = fA T) ∧ (Rch fj sv ↔ JN c1 cr fA sv) ∧ bdL (B + 200000000000000) (fj sv) := by
  subst h0
  exact ⟨h.1, h.2.2.1, h.2.2.2.1⟩
end
/-- the outer loop: sets above sv are done with -/
def J1I (B : Int) (c1 : Nat → Int32) (cr : Nat) (fI fj : Nat → Int64) (al sv : Nat) : Prop :=
  (∀ T : Nat, T ≤ sv → fj T = fI T) ∧ (∀ T : Nat, sv < T → T ≤ al → (Rch fj T ↔ JN c1 cr fI T)) ∧ okL (B + 200000000000000) fj ∧ okL B fI
section
variable {B : Int} {c1 : Nat → Int32} {cr : Nat} {fI fj : Nat → Int64} {al sv : Nat}
theorem J1_0 (hI : okL B fI) : J1I B c1 cr fI fI al al := ⟨fun _ _ => rfl, fun T a b => by omega, fun S hS => bdL_up (hI S hS) (by omega), hI⟩
theorem J1_A (h : J1I B c1 cr fI fj al sv) (hs : sv < 128) : ∀ T : Nat, T ≤ sv → bdL B (fj T) := fun T hT => by
  rw [h.1 T hT]
  exact h.2.2.2 T (by omega)
theorem J1_next (h : J1I B c1 cr fI fj al sv) (hs : 0 < sv) {fn : Nat → Int64} (h2 : (∀ T : Nat, T ≠ sv → fn T = fj T) ∧ (Rch fn sv ↔ JN c1 cr fj sv) ∧ bdL (B + 200000000000000) (fn sv)) : J1I B c1 cr fI fn al (sv - 1) := by
  have r : ∀ T : Nat, T ≤ sv → (Rch fj T ↔ Rch fI T) := fun T hT => by
    unfold Rch
    rw [h.1 T hT]
  refine ⟨fun T hT => by rw [h2.1 T (by omega)]; exact h.1 T (by omega), fun T a b => ?_, fun S hS => ?_, h.2.2.2⟩
  · by_cases e : T = sv
    · rw [e, h2.2.1]
      unfold JN
      rw [r sv (Nat.le_refl _)]
      refine ⟨fun q => q.imp id (fun ⟨x, a1, a2, a3, a4⟩ => ⟨x, a1, a2, a3, (r _ (xor_sub a2)).mp a4⟩), fun q => q.imp id (fun ⟨x, a1, a2, a3, a4⟩ => ⟨x, a1, a2, a3, (r _ (xor_sub a2)).mpr a4⟩)⟩
    · have : Rch fn T ↔ Rch fj T := by
        unfold Rch
        rw [h2.1 T e]
      rw [this]
      exact h.2.1 T (by omega) b
  · by_cases e : S = sv
    · rw [e]; exact h2.2.2
    · rw [h2.1 S e]; exact h.2.2.1 S hS
theorem J1_end (h : J1I B c1 cr fI fj al sv) (h0 : sv = 0) : (∀ T : Nat, T ≤ al → (Rch fj T ↔ JN c1 cr fI T)) ∧ okL (B + 200000000000000) fj := by
  subst h0
  refine ⟨fun T hT => ?_, h.2.2.1⟩
  rcases Nat.eq_zero_or_pos T with e | e
  · subst e
    have z : Rch fj 0 ↔ Rch fI 0 := by
      unfold Rch
      rw [h.1 0 (Nat.le_refl _)]
    rw [z]
    refine ⟨Or.inl, fun q => q.elim id (fun ⟨x, a1, a2, _⟩ => ?_)⟩
    rw [Nat.and_zero] at a2
    omega
  · exact h.2.1 T e hT
end
theorem RR_le {K : Nat → Nat → Prop} {c S : Nat} (h : RR K c S) : S < 128 := by
  obtain ⟨g, e, _⟩ := h
  rw [e]
  exact unOf_lt g c 7
/-- one crew more -/
theorem RR_more {K : Nat → Nat → Prop} {c1 : Nat → Int32} {cr al : Nat} {fj fn : Nat → Int64} (hal : al < 128) (hK0 : K cr 0) (hc : ∀ q : Nat, 0 < q → q < 128 → ((¬ c1 (cr * 128 + q) = -1) ↔ K cr q)) (h : ∀ T : Nat, T ≤ al → (Rch fj T ↔ RR K cr T)) (hn : ∀ T : Nat, T ≤ al → (Rch fn T ↔ JN c1 cr fj T)) : ∀ T : Nat, T ≤ al → (Rch fn T ↔ RR K (cr + 1) T) := by
  intro T hT
  rw [hn T hT]
  refine ⟨fun q => ?_, fun q => ?_⟩
  · rcases q with q | ⟨p, a1, a2, a3, a4⟩
    · exact RR_skip hK0 ((h T hT).mp q)
    · have pl : p ≤ T := by rw [← a2]; exact Nat.and_le_right
      exact RR_join (by omega) a2 ((hc p a1 (by omega)).mp a3) ((h _ (Nat.le_trans (xor_sub a2) hT)).mp a4)
  · rcases RR_inv q with q | ⟨p, a1, a2, a3, a4⟩
    · exact Or.inl ((h T hT).mpr q)
    · have pl : p ≤ T := by rw [← a2]; exact Nat.and_le_right
      exact Or.inr ⟨p, a1, a2, (hc p a1 (by omega)).mpr a3, (h _ (Nat.le_trans (xor_sub a2) hT)).mpr a4⟩
/-- a crew that isn't told -/
theorem RR_none {K : Nat → Nat → Prop} {cr al : Nat} {fj : Nat → Int64} (hK0 : K cr 0) (hc : ∀ q : Nat, 0 < q → ¬ K cr q) (h : ∀ T : Nat, T ≤ al → (Rch fj T ↔ RR K cr T)) : ∀ T : Nat, T ≤ al → (Rch fj T ↔ RR K (cr + 1) T) := by
  intro T hT
  rw [h T hT]
  refine ⟨RR_skip hK0, fun q => ?_⟩
  rcases RR_inv q with q | ⟨p, a1, _, a3, _⟩
  · exact q
  · exact absurd a3 (hc p a1)
/-- choose's loop: sets below sv are looked at -/
def ChI (fj : Nat → Int64) (sv : Nat) (dn : Int32) : Prop := ∃ m : Nat, m ≤ 7 ∧ dn = nI m ∧ (∀ T : Nat, T < sv → Rch fj T → pc7 T ≤ m) ∧ (m = 0 ∨ ∃ T : Nat, T < sv ∧ Rch fj T ∧ pc7 T = m)
theorem pc7_le : ∀ s : Nat, s < 128 → pc7 s ≤ 7 := by decide +kernel
theorem ChI_0 {fj : Nat → Int64} : ChI fj 0 0 := ⟨0, by decide, rfl, fun T hT => absurd hT (Nat.not_lt_zero _), Or.inl rfl⟩
theorem ChI_no {fj : Nat → Int64} {sv : Nat} {dn : Int32} (h : ChI fj sv dn) (hn : ¬ Rch fj sv ∨ ¬ dn ≤ nI (pc7 sv)) (hs : sv < 128) : ChI fj (sv + 1) dn := by
  obtain ⟨m, h7, e, a, b⟩ := h
  refine ⟨m, h7, e, fun T hT hR => ?_, b.imp id (fun ⟨T, x, y⟩ => ⟨T, by omega, y⟩)⟩
  by_cases q : T = sv
  · subst q
    rcases hn with r | r
    · exact absurd hR r
    · have := pc7_le T hs
      rcases Nat.lt_or_ge m (pc7 T) with t | t
      · exact absurd (by rw [e]; exact nI_le (by omega) (by omega)) r
      · exact t
  · exact a T (by omega) hR
theorem ChI_yes {fj : Nat → Int64} {sv : Nat} {dn : Int32} (h : ChI fj sv dn) (hR : Rch fj sv) (hd : dn ≤ nI (pc7 sv)) (hs : sv < 128) : ChI fj (sv + 1) (nI (pc7 sv)) := by
  obtain ⟨m, h7, e, a, b⟩ := h
  have p7 := pc7_le sv hs
  have hm : m ≤ pc7 sv := by
    rw [e] at hd
    exact (nI_leI (by omega) (by omega)).mp hd
  refine ⟨pc7 sv, p7, rfl, fun T hT hR2 => ?_, Or.inr ⟨sv, by omega, hR, rfl⟩⟩
  by_cases q : T = sv
  · rw [q]; exact Nat.le_refl _
  · exact Nat.le_trans (a T (by omega) hR2) hm
/-- the most deliveries that can be done -/
def MaxP (K : Nat → Nat → Prop) (al : Nat) (r : Int32) : Prop := ∃ m : Nat, m ≤ 7 ∧ r = nI m ∧ (∀ T : Nat, T ≤ al → RR K 4 T → pc7 T ≤ m) ∧ ∃ T : Nat, T ≤ al ∧ RR K 4 T ∧ pc7 T = m
theorem RR_zero {K : Nat → Nat → Prop} (h : ∀ i : Nat, K i 0) : ∀ c : Nat, RR K c 0
  | 0 => RR_0.mpr rfl
  | c + 1 => RR_skip (h c) (RR_zero h c)
theorem MaxP_of {K : Nat → Nat → Prop} {fj : Nat → Int64} {al sv : Nat} {dn : Int32} (hK : ∀ i : Nat, K i 0) (h : ∀ T : Nat, T ≤ al → (Rch fj T ↔ RR K 4 T)) (hc : ChI fj sv dn) (hs : sv = al + 1) : MaxP K al dn := by
  obtain ⟨m, h7, e, a, b⟩ := hc
  subst hs
  refine ⟨m, h7, e, fun T hT hR => a T (by omega) ((h T hT).mpr hR), ?_⟩
  rcases b with q | ⟨T, x, y, z⟩
  · exact ⟨0, Nat.zero_le _, RR_zero hK 4, by rw [q]; decide⟩
  · exact ⟨T, by omega, (h T (by omega)).mp y, z⟩
theorem MaxP_eq {K : Nat → Nat → Prop} {al : Nat} {r1 r2 : Int32} (h1 : MaxP K al r1) (h2 : MaxP K al r2) : r1 = r2 := by
  obtain ⟨m, -, e, a, T, b1, b2, b3⟩ := h1
  obtain ⟨m', -, e', a', T', b1', b2', b3'⟩ := h2
  have x := a T' b1' b2'
  have y := a' T b1 b2
  rw [e, e', show m = m' by omega]
theorem lg_un {x : Int64} {y : Int32} (e : y = lg_cmp x 1152921504606846976) (c : 0 ≤ y) : ¬ x < 1152921504606846976 := by
  rw [e, lg_cmp_ge] at c
  exact Int64.not_lt.mpr c
theorem lg_re {x : Int64} {y : Int32} (e : y = lg_cmp x 1152921504606846976) (c : ¬ 0 ≤ y) : x < 1152921504606846976 := by
  rw [e, lg_cmp_ge] at c
  exact Int64.not_le.mp c
theorem shl_e : ∀ n : Nat, n < 8 → (2 ^ n - 1 < 128 ∧ ((1 : Int32) <<< (nI n &&& 31)) - 1 = nI (2 ^ n - 1)) := by decide +kernel
theorem upd_row {c1 : Nat → Int32} {b k : Nat} {v : Int32} (h : ∀ S : Nat, S < k → c1 (b + S) = v) : ∀ S : Nat, S < k + 1 → upd c1 (b + k) v (b + S) = v := by
  intro S hS
  by_cases e : S = k
  · rw [e, pk_us]
  · rw [pk_un (by omega)]; exact h S (by omega)
/-- weightOf, as it is worked out -/
def wtE (x : Int32) : Int64 := (0 : Int64) + ((x >>> ((0 : Int32) &&& 31) &&& 1) * 15625).toInt64 + ((x >>> ((1 : Int32) &&& 31) &&& 1) * 3125).toInt64 + ((x >>> ((2 : Int32) &&& 31) &&& 1) * 625).toInt64 + ((x >>> ((3 : Int32) &&& 31) &&& 1) * 125).toInt64 + ((x >>> ((4 : Int32) &&& 31) &&& 1) * 25).toInt64 + ((x >>> ((5 : Int32) &&& 31) &&& 1) * 5).toInt64 + ((x >>> ((6 : Int32) &&& 31) &&& 1) * 1).toInt64
theorem wt_bd : ∀ w : Nat, w < 128 → (-20000 ≤ (wtE (nI w)).toInt ∧ (wtE (nI w)).toInt ≤ 20000) := by decide +kernel
def usr (x y : Int32) : Int32 := (x.toUInt32 >>> (y.toUInt32 &&& Int32.toUInt32 31)).toInt32
/-- bitCount, as it is worked out -/
def bcA (x : Int32) : Int32 := x - (usr x 1 &&& 1431655765)
def bcB (x : Int32) : Int32 := (x &&& 858993459) + (usr x 2 &&& 858993459)
def bcC (x : Int32) : Int32 := (x + usr x 4) &&& 252645135
def bcD (x : Int32) : Int32 := x + usr x 8
def bcF (x : Int32) : Int32 := x + usr x 16
def bcE (x : Int32) : Int32 := bcF (bcD (bcC (bcB (bcA x)))) &&& 63
theorem bc_e : ∀ w : Nat, w < 128 → bcE (nI w) = nI (pc7 w) := by decide +kernel
/-- what crew i can do -/
def OKc (D : DT) (n : Nat) (d6 d7 : Nat → Int32) (i q : Nat) : Prop := q = 0 ∨ ((¬ d6 i = -1) ∧ ∃ pt da, Fe D n (d6 i) (d7 i) q pt da)
theorem OKc_no {D : DT} {n : Nat} {d6 d7 : Nat → Int32} {i : Nat} (h : d6 i = -1) : ∀ q : Nat, 0 < q → ¬ OKc D n d6 d7 i q := fun q hq k => k.elim (fun e => by omega) (fun r => r.1 h)
theorem OKc_yes {D : DT} {n : Nat} {d6 d7 : Nat → Int32} {i q : Nat} (hq : 0 < q) (h : ¬ d6 i = -1) : (∃ pt da, Fe D n (d6 i) (d7 i) q pt da) ↔ OKc D n d6 d7 i q := ⟨fun k => Or.inr ⟨h, k⟩, fun k => k.elim (fun e => by omega) (fun r => r.2)⟩
theorem m1_in {x : Int32} (h : inR x (-1) 9 = true) (hn : ¬ x = -1) : inR x 0 9 = true := by
  have b := inR_b h (a := -1) (by decide) (b := 9) (by decide)
  refine b_inR (a := 0) (by decide) (b := 9) (by decide) ?_
  have g : x.toInt ≠ -1 := fun q => hn ((ii_eq _ _).mpr (by rw [q]; decide))
  omega
theorem okL_up {k : Nat} {fj : Nat → Int64} (h : okL ((k : Int) * 200000000000000) fj) : okL (((k + 1 : Nat) : Int) * 200000000000000) fj := fun S hS => bdL_up (h S hS) (by omega)
theorem okL_add {k : Nat} {fj : Nat → Int64} (h : okL ((k : Int) * 200000000000000 + 200000000000000) fj) : okL (((k + 1 : Nat) : Int) * 200000000000000) fj := fun S hS => bdL_up (h S hS) (by omega)
theorem RR_start {K : Nat → Nat → Prop} {al : Nat} (hal : al < 128) {f g : Nat → Int64} (h : ∀ k : Nat, k < 128 → f k = 1152921504606846976) (e : g = vp_updL f (0 : Int32).toNatClampNeg 0) : ∀ T : Nat, T ≤ al → (Rch g T ↔ RR K 0 T) := by
  intro T hT
  rw [RR_0]
  unfold Rch
  have z : (0 : Int32).toNatClampNeg = 0 := by decide
  rw [e, z]
  by_cases q : T = 0
  · rw [q, pk_uLs]
    exact ⟨fun _ => rfl, fun _ => by decide⟩
  · rw [pk_uLn q, h T (by omega)]
    exact ⟨fun r => absurd r (fun h => Int64.lt_irrefl h), fun r => absurd r q⟩
theorem okL_start {f g : Nat → Int64} (h : ∀ k : Nat, k < 128 → f k = 1152921504606846976) (e : g = vp_updL f (0 : Int32).toNatClampNeg 0) : okL (((0 : Nat) : Int) * 200000000000000) g := by
  intro S hS
  have z : (0 : Int32).toNatClampNeg = 0 := by decide
  rw [e, z]
  by_cases q : S = 0
  · rw [q, pk_uLs]
    exact Or.inr (by decide)
  · rw [pk_uLn q, h S hS]
    exact Or.inl rfl
theorem nI_ltE {a b : Nat} (ha : a < 2 ^ 31) (hb : b < 2 ^ 31) (h : nI a < nI b) : a < b := by
  rcases Nat.lt_or_ge a b with q | q
  · exact q
  · exact absurd h (Int32.not_lt.mpr (nI_le q (by omega)))
theorem Fe_lt {D : DT} {n : Nat} {pr dr : Int32} : ∀ (j S : Nat) (pt da : Int32), FeK D n pr dr j S pt da → S < 2 ^ n := by
  intro j
  induction j with
  | zero =>
    intro S pt da hF
    obtain ⟨rfl, -, -⟩ := hF
    exact Nat.pow_pos (by decide)
  | succ j ih =>
    intro S pt da hF
    obtain ⟨S0, p0, t0, k, hF0, hk, -, -, rfl, -, -⟩ := hF
    refine Nat.or_lt_two_pow (ih S0 p0 t0 hF0) ?_
    rw [Nat.one_shiftLeft]
    exact Nat.pow_lt_pow_right (by decide) hk
theorem OKc_lt {D : DT} {n : Nat} {d6 d7 : Nat → Int32} {i q : Nat} (h : OKc D n d6 d7 i q) : q < 2 ^ n := by
  rcases h with rfl | ⟨-, pt, da, j, hj⟩
  · exact Nat.pow_pos (by decide)
  · exact Fe_lt j q pt da hj
