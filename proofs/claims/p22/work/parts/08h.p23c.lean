def bN (s d : Nat) : Nat := (Nat.testBit s d).toNat
/-- the weight of a set of deliveries in the row of crews -/
def wt7 (s : Nat) : Nat := 15625 * bN s 0 + 3125 * bN s 1 + 625 * bN s 2 + 125 * bN s 3 + 25 * bN s 4 + 5 * bN s 5 + bN s 6
theorem wtE_e : ∀ w : Nat, w < 128 → (wtE (nI w)).toInt = (wt7 w : Int) := by decide +kernel
theorem wt7_0 : wt7 0 = 0 := by decide
theorem wt7_le : ∀ w : Nat, w < 128 → wt7 w ≤ 19531 := by decide +kernel
/-- sums over the crews below c: of the costs, and of the row's number -/
def vsm (C : Nat → Nat → Int) (g : Nat → Nat) (m : Nat) : Nat → Int
  | 0 => 0
  | c + 1 => vsm C g m c + C c (setOf g c m)
def nsm (g : Nat → Nat) (m : Nat) : Nat → Nat
  | 0 => 0
  | c + 1 => nsm g m c + c * wt7 (setOf g c m)
theorem vsm_cg {C : Nat → Nat → Int} {g g' : Nat → Nat} {m m' : Nat} : ∀ c : Nat, (∀ i : Nat, i < c → setOf g i m = setOf g' i m') → vsm C g m c = vsm C g' m' c ∧ nsm g m c = nsm g' m' c := by
  intro c
  induction c with
  | zero => intro _; exact ⟨rfl, rfl⟩
  | succ c ih =>
    intro h
    obtain ⟨a, b⟩ := ih (fun i hi => h i (by omega))
    show vsm C g m c + C c (setOf g c m) = vsm C g' m' c + C c (setOf g' c m') ∧ nsm g m c + c * wt7 (setOf g c m) = nsm g' m' c + c * wt7 (setOf g' c m')
    rw [a, b, h c (by omega)]
    exact ⟨rfl, rfl⟩
def VLs (C : Nat → Nat → Int) (g : Nat → Nat) (c : Nat) : Int := vsm C g 7 c * 78125 + (nsm g 7 c : Int)
theorem VLs_s (C : Nat → Nat → Int) (g : Nat → Nat) (c : Nat) : VLs C g (c + 1) = VLs C g c + C c (setOf g c 7) * 78125 + ((c * wt7 (setOf g c 7) : Nat) : Int) := by
  show (vsm C g 7 c + C c (setOf g c 7)) * 78125 + ((nsm g 7 c + c * wt7 (setOf g c 7) : Nat) : Int) = vsm C g 7 c * 78125 + (nsm g 7 c : Int) + C c (setOf g c 7) * 78125 + ((c * wt7 (setOf g c 7) : Nat) : Int)
  rw [Int.natCast_add]
  omega
theorem VLs_cg {C : Nat → Nat → Int} {g g' : Nat → Nat} {c : Nat} (h : ∀ i : Nat, i < c → setOf g i 7 = setOf g' i 7) : VLs C g c = VLs C g' c := by
  unfold VLs
  obtain ⟨a, b⟩ := vsm_cg (C := C) c h
  rw [a, b]
/-- S is done by crews below c, each of which can do its own, at the value v -/
def RRv (F : Nat → Nat → Prop) (C : Nat → Nat → Int) (c S : Nat) (v : Int) : Prop := ∃ g : Nat → Nat, S = unOf g c 7 ∧ (∀ i : Nat, i < c → F i (setOf g i 7)) ∧ v = VLs C g c
section
variable {F : Nat → Nat → Prop} {C : Nat → Nat → Int}
theorem RRv_RR {c S : Nat} {v : Int} (h : RRv F C c S v) : RR F c S := by
  obtain ⟨g, a, b, -⟩ := h
  exact ⟨g, a, b⟩
theorem RR_RRv {c S : Nat} (h : RR F c S) : ∃ v, RRv F C c S v := by
  obtain ⟨g, a, b⟩ := h
  exact ⟨_, g, a, b, rfl⟩
theorem RRv_0 {S : Nat} {v : Int} : RRv F C 0 S v ↔ S = 0 ∧ v = 0 := by
  have z : ∀ g : Nat → Nat, unOf g 0 7 = 0 := fun g => Nat.eq_of_testBit_eq (fun d => by rw [unOf_bit, Nat.zero_testBit]; exact decide_eq_false (fun q => by omega))
  have z2 : ∀ g : Nat → Nat, VLs C g 0 = 0 := fun g => rfl
  exact ⟨fun ⟨g, h, _, h2⟩ => ⟨h.trans (z g), h2.trans (z2 g)⟩, fun h => ⟨fun _ => 9, h.1.trans (z _).symm, fun i hi => absurd hi (Nat.not_lt_zero _), h.2.trans (z2 _).symm⟩⟩
theorem RRv_skip {c S : Nat} {v : Int} (h0 : F c 0) (hC : C c 0 = 0) (h : RRv F C c S v) : RRv F C (c + 1) S v := by
  obtain ⟨g, e, hg, hv⟩ := h
  have sb : ∀ d : Nat, (if g d < c then g d else c + 1) < c + 1 ↔ g d < c := by
    intro d
    by_cases q : g d < c
    · rw [if_pos q]; omega
    · rw [if_neg q]; omega
  have s1 : ∀ i : Nat, i < c → setOf (fun d => if g d < c then g d else c + 1) i 7 = setOf g i 7 := fun i hi => Nat.eq_of_testBit_eq (fun d => by
    rw [setOf_bit, setOf_bit]
    have : ((if g d < c then g d else c + 1) = i) ↔ g d = i := by
      by_cases r : g d < c
      · rw [if_pos r]
      · rw [if_neg r]; omega
    simp only [this])
  have s2 : setOf (fun d => if g d < c then g d else c + 1) c 7 = 0 := Nat.eq_of_testBit_eq (fun d => by
    rw [setOf_bit, Nat.zero_testBit]
    refine decide_eq_false (fun q2 => ?_)
    have q3 := q2.2
    by_cases r : g d < c
    · simp only [if_pos r] at q3; omega
    · simp only [if_neg r] at q3; omega)
  refine ⟨fun d => if g d < c then g d else c + 1, ?_, fun i hi => ?_, ?_⟩
  · rw [e]
    exact Nat.eq_of_testBit_eq (fun d => by rw [unOf_bit, unOf_bit]; simp only [sb d])
  · by_cases q : i < c
    · rw [s1 i q]; exact hg i q
    · have e2 : i = c := by omega
      rw [e2, s2]; exact h0
  · rw [VLs_s, s2, hC, wt7_0, VLs_cg (g' := g) s1, ← hv]
    omega
theorem RRv_join {c S q : Nat} {v : Int} (hS : S < 128) (hq : q &&& S = q) (hK : F c q) (h : RRv F C c (S ^^^ q) v) : RRv F C (c + 1) S (v + C c q * 78125 + ((c * wt7 q : Nat) : Int)) := by
  obtain ⟨g, e, hg, hv⟩ := h
  have eb : ∀ d : Nat, (Nat.testBit S d ^^ Nat.testBit q d) = decide (d < 7 ∧ g d < c) := fun d => by rw [← Nat.testBit_xor, e, unOf_bit]
  have q7 : ∀ d : Nat, Nat.testBit q d = true → d < 7 := fun d hd => by
    rcases Nat.lt_or_ge d 7 with r | r
    · exact r
    · have := sub_bit hq hd
      rw [Nat.testBit_lt_two_pow (Nat.lt_of_lt_of_le hS (Nat.pow_le_pow_right (n := 2) (by decide) r))] at this
      cases this
  have qg : ∀ d : Nat, Nat.testBit q d = true → ¬ g d < c := fun d hd r => by
    have h1 := eb d
    rw [sub_bit hq hd, hd, decide_eq_true ⟨q7 d hd, r⟩] at h1
    cases h1
  have s1 : ∀ i : Nat, i < c → setOf (fun d => if Nat.testBit q d then c else if g d < c then g d else c + 1) i 7 = setOf g i 7 := fun i r => Nat.eq_of_testBit_eq (fun d => by
    rw [setOf_bit, setOf_bit]
    have : ((if Nat.testBit q d then c else if g d < c then g d else c + 1) = i) ↔ g d = i := by
      cases hd : Nat.testBit q d with
      | true =>
        have := qg d hd
        simp only [if_true]
        omega
      | false =>
        simp only [Bool.false_eq_true, if_false]
        by_cases r2 : g d < c
        · rw [if_pos r2]
        · rw [if_neg r2]; omega
    simp only [this])
  have s2 : setOf (fun d => if Nat.testBit q d then c else if g d < c then g d else c + 1) c 7 = q := Nat.eq_of_testBit_eq (fun d => by
    rw [setOf_bit]
    cases hd : Nat.testBit q d with
    | true => exact decide_eq_true ⟨q7 d hd, by simp only [if_true]⟩
    | false =>
      refine decide_eq_false (fun q2 => ?_)
      have q3 := q2.2
      simp only [Bool.false_eq_true, if_false] at q3
      by_cases r2 : g d < c
      · simp only [if_pos r2] at q3; omega
      · simp only [if_neg r2] at q3; omega)
  refine ⟨fun d => if Nat.testBit q d then c else if g d < c then g d else c + 1, ?_, fun i hi => ?_, ?_⟩
  · refine Nat.eq_of_testBit_eq (fun d => ?_)
    rw [unOf_bit]
    have h1 := eb d
    cases hd : Nat.testBit q d with
    | true =>
      rw [sub_bit hq hd]
      exact (decide_eq_true ⟨q7 d hd, by simp only [if_true]; omega⟩).symm
    | false =>
      rw [hd, Bool.xor_false] at h1
      rw [h1]
      have : (if g d < c then g d else c + 1) < c + 1 ↔ g d < c := by
        by_cases r : g d < c
        · rw [if_pos r]; omega
        · rw [if_neg r]; omega
      simp only [Bool.false_eq_true, if_false, this]
  · by_cases r : i < c
    · rw [s1 i r]; exact hg i r
    · have e2 : i = c := by omega
      rw [e2, s2]; exact hK
  · rw [VLs_s, s2, VLs_cg (g' := g) s1, ← hv]
theorem RRv_inv {c S : Nat} {v : Int} (hC : C c 0 = 0) (h : RRv F C (c + 1) S v) : RRv F C c S v ∨ ∃ (q : Nat) (u : Int), 0 < q ∧ q &&& S = q ∧ F c q ∧ RRv F C c (S ^^^ q) u ∧ v = u + C c q * 78125 + ((c * wt7 q : Nat) : Int) := by
  obtain ⟨g, e, hg, hv⟩ := h
  have sbit : ∀ d : Nat, Nat.testBit S d = decide (d < 7 ∧ g d < c + 1) := fun d => by rw [e, unOf_bit]
  rw [VLs_s] at hv
  by_cases z : setOf g c 7 = 0
  · refine Or.inl ⟨g, ?_, fun i hi => hg i (by omega), ?_⟩
    · refine Nat.eq_of_testBit_eq (fun d => ?_)
      rw [sbit, unOf_bit]
      have hz : ¬ (d < 7 ∧ g d = c) := fun q => by
        have := setOf_bit g c 7 d
        rw [z, Nat.zero_testBit, decide_eq_true q] at this
        cases this
      have : (d < 7 ∧ g d < c + 1) ↔ (d < 7 ∧ g d < c) := ⟨fun q => ⟨q.1, (Nat.lt_or_ge (g d) c).elim id (fun r => absurd ⟨q.1, by omega⟩ hz)⟩, fun q => ⟨q.1, by omega⟩⟩
      simp only [this]
    · rw [z, hC, wt7_0] at hv
      omega
  · refine Or.inr ⟨setOf g c 7, VLs C g c, Nat.pos_of_ne_zero z, ?_, hg c (by omega), ⟨g, ?_, fun i hi => hg i (by omega), rfl⟩, hv⟩
    · refine Nat.eq_of_testBit_eq (fun d => ?_)
      rw [Nat.testBit_and, sbit, setOf_bit]
      by_cases q : d < 7 ∧ g d = c
      · rw [decide_eq_true q, decide_eq_true (show d < 7 ∧ g d < c + 1 from ⟨q.1, by omega⟩)]; rfl
      · rw [decide_eq_false q]; rfl
    · refine Nat.eq_of_testBit_eq (fun d => ?_)
      rw [Nat.testBit_xor, sbit, setOf_bit, unOf_bit]
      by_cases a : d < 7
      · by_cases b : g d = c
        · rw [decide_eq_true (show d < 7 ∧ g d < c + 1 from ⟨a, by omega⟩), decide_eq_true (show d < 7 ∧ g d = c from ⟨a, b⟩), decide_eq_false (show ¬ (d < 7 ∧ g d < c) from fun q => by omega)]; rfl
        · rw [decide_eq_false (show ¬ (d < 7 ∧ g d = c) from fun q => b q.2), Bool.xor_false]
          have : (d < 7 ∧ g d < c + 1) ↔ (d < 7 ∧ g d < c) := ⟨fun q => ⟨q.1, by omega⟩, fun q => ⟨q.1, by omega⟩⟩
          simp only [this]
      · rw [decide_eq_false (show ¬ (d < 7 ∧ g d < c + 1) from fun q => a q.1), decide_eq_false (show ¬ (d < 7 ∧ g d = c) from fun q => a q.1), decide_eq_false (show ¬ (d < 7 ∧ g d < c) from fun q => a q.1)]; rfl
end
/-- what joining part q to the rest of T comes to -/
def cnd (c1 : Nat → Int32) (cr : Nat) (f : Nat → Int64) (T q : Nat) : Int := (f (T ^^^ q)).toInt + (c1 (cr * 128 + q)).toInt * 78125 + ((cr * wt7 q : Nat) : Int)
/-- the value at T is the least of all joinings with parts above pv -/
def JX (c1 : Nat → Int32) (cr : Nat) (fI : Nat → Int64) (T pv : Nat) (x : Int64) : Prop :=
  x.toInt ≤ (fI T).toInt ∧ (∀ q : Nat, pv < q → q &&& T = q → (¬ c1 (cr * 128 + q) = -1) → Rch fI (T ^^^ q) → x.toInt ≤ cnd c1 cr fI T q) ∧ (x = fI T ∨ ∃ q : Nat, pv < q ∧ q &&& T = q ∧ (¬ c1 (cr * 128 + q) = -1) ∧ Rch fI (T ^^^ q) ∧ x.toInt = cnd c1 cr fI T q)
section
variable {B : Int} {c1 : Nat → Int32} {cr : Nat} {fA fI fj : Nat → Int64} {sv pv al : Nat}
theorem JX_0 : JX c1 cr fA sv sv (fA sv) := by
  refine ⟨Int.le_refl _, fun q a b _ _ => ?_, Or.inl rfl⟩
  have : q ≤ sv := by rw [← b]; exact Nat.and_le_right
  omega
theorem JX_no (hJ : J2I B c1 cr fA fj sv pv) (hs : sv < 128) (h0 : 0 < pv) (hn : c1 (cr * 128 + pv) = -1 ∨ ¬ Rch fA (sv ^^^ pv)) (h : JX c1 cr fA sv pv (fj sv)) : JX c1 cr fA sv ((pv - 1) &&& sv) (fj sv) := by
  have lt := @J2_lt sv pv h0
  refine ⟨h.1, fun q a b c d => ?_, h.2.2.imp id (fun ⟨q, a, b⟩ => ⟨q, by omega, b⟩)⟩
  have h1 := J2_q hJ hs b a
  rcases Nat.lt_or_ge pv q with t | t
  · exact h.2.1 q t b c d
  · have e : q = pv := by omega
    rw [e] at c d
    rcases hn with x | x
    · exact absurd x c
    · exact absurd d x
theorem mnL_i (x y : Int64) : (mnL x y).toInt ≤ x.toInt ∧ (mnL x y).toInt ≤ y.toInt ∧ (mnL x y = x ∨ mnL x y = y) := by
  unfold mnL
  by_cases q : y < x
  · rw [if_pos q]
    rw [Int64.lt_iff_toInt_lt] at q
    exact ⟨by omega, Int.le_refl _, Or.inr rfl⟩
  · rw [if_neg q]
    rw [Int64.lt_iff_toInt_lt] at q
    exact ⟨Int.le_refl _, by omega, Or.inl rfl⟩
theorem JX_yes (hJ : J2I B c1 cr fA fj sv pv) (hs : sv < 128) (h0 : 0 < pv) (hc : ¬ c1 (cr * 128 + pv) = -1) (hr : Rch fA (sv ^^^ pv)) {v : Int64} (hv : v.toInt = cnd c1 cr fA sv pv) {fn : Nat → Int64} (hf : fn = vp_updL fj sv (mnL (fj sv) v)) (h : JX c1 cr fA sv pv (fj sv)) : JX c1 cr fA sv ((pv - 1) &&& sv) (fn sv) := by
  have lt := @J2_lt sv pv h0
  obtain ⟨m1, m2, m3⟩ := mnL_i (fj sv) v
  rw [hf, pk_uLs]
  refine ⟨by have := h.1; omega, fun q a b c d => ?_, ?_⟩
  · have h1 := J2_q hJ hs b a
    rcases Nat.lt_or_ge pv q with t | t
    · have := h.2.1 q t b c d
      omega
    · have e : q = pv := by omega
      rw [e]
      omega
  · rcases m3 with m3 | m3
    · rw [m3]
      exact h.2.2.imp id (fun ⟨q, a, b⟩ => ⟨q, by omega, b⟩)
    · exact Or.inr ⟨pv, lt, hJ.2.1, hc, hr, by rw [m3]; exact hv⟩
theorem JX_cg (he : ∀ T : Nat, T ≤ sv → fA T = fI T) {x : Int64} (h : JX c1 cr fA sv 0 x) : JX c1 cr fI sv 0 x := by
  have hx : ∀ q : Nat, q &&& sv = q → fA (sv ^^^ q) = fI (sv ^^^ q) := fun q hq => he _ (xor_sub hq)
  refine ⟨by rw [← he sv (Nat.le_refl _)]; exact h.1, fun q a b c d => ?_, ?_⟩
  · have := h.2.1 q a b c (by unfold Rch; rw [hx q b]; exact d)
    unfold cnd at this ⊢
    rw [hx q b] at this
    exact this
  · rcases h.2.2 with e | ⟨q, a, b, c, d, e⟩
    · exact Or.inl (e.trans (he sv (Nat.le_refl _)))
    · refine Or.inr ⟨q, a, b, c, by unfold Rch; rw [← hx q b]; exact d, ?_⟩
      rw [e]
      unfold cnd
      rw [hx q b]
/-- outer loop: sets above sv have their least -/
def J1X (c1 : Nat → Int32) (cr : Nat) (fI fj : Nat → Int64) (al sv : Nat) : Prop := ∀ T : Nat, sv < T → T ≤ al → JX c1 cr fI T 0 (fj T)
theorem J1X_0 : J1X c1 cr fI fI al al := fun T a b => by omega
theorem J1X_next (hO : J1I B c1 cr fI fj al sv) (hs : 0 < sv) {fn : Nat → Int64} (he : ∀ T : Nat, T ≠ sv → fn T = fj T) (h2 : JX c1 cr fj sv 0 (fn sv)) (h : J1X c1 cr fI fj al sv) : J1X c1 cr fI fn al (sv - 1) := by
  intro T a b
  by_cases e : T = sv
  · subst e
    exact JX_cg hO.1 h2
  · rw [he T e]
    exact h T (by omega) b
theorem J1X_end (hO : J1I B c1 cr fI fj al sv) (h0 : sv = 0) (h : J1X c1 cr fI fj al sv) : ∀ T : Nat, T ≤ al → JX c1 cr fI T 0 (fj T) := by
  intro T hT
  rcases Nat.eq_zero_or_pos T with e | e
  · subst e
    have z : fj 0 = fI 0 := hO.1 0 (Nat.zero_le _)
    refine ⟨by rw [z]; exact Int.le_refl _, fun q a b _ _ => ?_, Or.inl z⟩
    rw [Nat.and_zero] at b
    omega
  · exact h T (by omega) hT
end
/-- what a crew's part adds, exactly -/
theorem val_e {B : Int} (hB0 : 0 ≤ B) (hB1 : B ≤ 1000000000000000) {u w v : Int64} {cost : Int32} {cr : Nat} (hcr : cr < 4) (hu : bdL B u) (hlt : u < 1152921504606846976) (hw : -20000 ≤ w.toInt ∧ w.toInt ≤ 20000) (hv : v = u + cost.toInt64 * 78125 + (nI cr).toInt64 * w) : v.toInt = u.toInt + cost.toInt * 78125 + (cr : Int) * w.toInt := by
  have hu2 : -B ≤ u.toInt ∧ u.toInt ≤ B := by
    rcases hu with q | q
    · rw [q] at hlt
      exact absurd hlt (fun h => Int64.lt_irrefl h)
    · exact q
  have c0 := Int32.le_toInt cost
  have c1 := Int32.toInt_lt cost
  have ec : cost.toInt64.toInt = cost.toInt := Int32.toInt_toInt64 cost
  have e1 := mulL (x := cost.toInt64) (y := 78125) ec (b := 78125) (by decide) (by omega) (by omega)
  have en : (nI cr).toInt64.toInt = (cr : Int) := by rw [Int32.toInt_toInt64, nI_toInt (by omega)]
  have e2 : ((nI cr).toInt64 * w).toInt = (cr : Int) * w.toInt ∧ -60000 ≤ (cr : Int) * w.toInt ∧ (cr : Int) * w.toInt ≤ 60000 := by
    rcases (show cr = 0 ∨ cr = 1 ∨ cr = 2 ∨ cr = 3 by omega) with rfl | rfl | rfl | rfl <;> refine ⟨mulL en rfl ?_ ?_, ?_, ?_⟩ <;> omega
  have e3 := addL (x := u) (y := cost.toInt64 * 78125) rfl e1 (by omega) (by omega)
  have e4 := addL (x := u + cost.toInt64 * 78125) (y := (nI cr).toInt64 * w) e3 e2.1 (by omega) (by omega)
  rw [← hv] at e4
  exact e4
/-- the least of all ways in which crews below c do just T -/
def LsE (F : Nat → Nat → Prop) (C : Nat → Nat → Int) (c : Nat) (fj : Nat → Int64) (al : Nat) : Prop := ∀ T : Nat, T ≤ al → ((¬ Rch fj T) ∧ ∀ v, ¬ RRv F C c T v) ∨ (Rch fj T ∧ RRv F C c T (fj T).toInt ∧ ∀ v, RRv F C c T v → (fj T).toInt ≤ v)
section
variable {F : Nat → Nat → Prop} {C : Nat → Nat → Int} {c1 : Nat → Int32} {cr al : Nat} {fj fn : Nat → Int64}
theorem LsE_more (hal : al < 128) (hF0 : F cr 0) (hC0 : C cr 0 = 0) (hc : ∀ q : Nat, 0 < q → q < 128 → ((¬ c1 (cr * 128 + q) = -1) ↔ F cr q) ∧ ((¬ c1 (cr * 128 + q) = -1) → (c1 (cr * 128 + q)).toInt = C cr q)) (h : LsE F C cr fj al) (hn : ∀ T : Nat, T ≤ al → (Rch fn T ↔ JN c1 cr fj T)) (hX : ∀ T : Nat, T ≤ al → JX c1 cr fj T 0 (fn T)) : LsE F C (cr + 1) fn al := by
  intro T hT
  have sub : ∀ q : Nat, q &&& T = q → q ≤ T ∧ T ^^^ q ≤ al := fun q hq => ⟨by rw [← hq]; exact Nat.and_le_right, Nat.le_trans (xor_sub hq) hT⟩
  by_cases hR : Rch fn T
  · refine Or.inr ⟨hR, ?_, fun v hv => ?_⟩
    · rcases (hX T hT).2.2 with e | ⟨q, a, b, c, d, e⟩
      · have hR2 : Rch fj T := by
          unfold Rch at hR ⊢
          rw [← e]; exact hR
        rcases h T hT with ⟨x, -⟩ | ⟨-, y, -⟩
        · exact absurd hR2 x
        · rw [e]
          exact RRv_skip hF0 hC0 y
      · obtain ⟨s1, s2⟩ := sub q b
        obtain ⟨k1, k2⟩ := hc q a (by omega)
        rcases h (T ^^^ q) s2 with ⟨x, -⟩ | ⟨-, y, -⟩
        · exact absurd d x
        · rw [e]
          unfold cnd
          rw [k2 c]
          exact RRv_join (by omega) b (k1.mp c) y
    · have x0 := hX T hT
      rcases RRv_inv hC0 hv with r | ⟨q, u, a, b, c, d, e⟩
      · rcases h T hT with ⟨-, x⟩ | ⟨-, -, y⟩
        · exact absurd r (x v)
        · have := y v r
          have := x0.1
          omega
      · obtain ⟨s1, s2⟩ := sub q b
        obtain ⟨k1, k2⟩ := hc q a (by omega)
        rcases h (T ^^^ q) s2 with ⟨-, x⟩ | ⟨y0, -, y⟩
        · exact absurd d (x u)
        · have z1 := y u d
          have z2 := x0.2.1 q a b (k1.mpr c) y0
          unfold cnd at z2
          rw [k2 (k1.mpr c)] at z2
          omega
  · refine Or.inl ⟨hR, fun v hv => ?_⟩
    rw [hn T hT] at hR
    rcases RRv_inv hC0 hv with r | ⟨q, u, a, b, c, d, e⟩
    · rcases h T hT with ⟨-, x⟩ | ⟨y, -⟩
      · exact x v r
      · exact hR (Or.inl y)
    · obtain ⟨s1, s2⟩ := sub q b
      obtain ⟨k1, k2⟩ := hc q a (by omega)
      rcases h (T ^^^ q) s2 with ⟨-, x⟩ | ⟨y0, -⟩
      · exact x u d
      · exact hR (Or.inr ⟨q, a, b, k1.mpr c, y0⟩)
theorem LsE_none (hF0 : F cr 0) (hC0 : C cr 0 = 0) (hc : ∀ q : Nat, 0 < q → ¬ F cr q) (h : LsE F C cr fj al) : LsE F C (cr + 1) fj al := by
  have k : ∀ T v, RRv F C (cr + 1) T v ↔ RRv F C cr T v := fun T v => ⟨fun r => by
    rcases RRv_inv hC0 r with r | ⟨q, u, a, b, c, d, e⟩
    · exact r
    · exact absurd c (hc q a), RRv_skip hF0 hC0⟩
  intro T hT
  rcases h T hT with ⟨x, y⟩ | ⟨x, y, z⟩
  · exact Or.inl ⟨x, fun v hv => y v ((k T v).mp hv)⟩
  · exact Or.inr ⟨x, (k T _).mpr y, fun v hv => z v ((k T v).mp hv)⟩
theorem LsE_start (hal : al < 128) {f g : Nat → Int64} (h : ∀ k : Nat, k < 128 → f k = 1152921504606846976) (e : g = vp_updL f (0 : Int32).toNatClampNeg 0) : LsE F C 0 g al := by
  intro T hT
  have z : (0 : Int32).toNatClampNeg = 0 := by decide
  by_cases q : T = 0
  · have hg : g T = 0 := by rw [e, z, q, pk_uLs]
    refine Or.inr ⟨by unfold Rch; rw [hg]; decide, ?_, fun v hv => ?_⟩
    · rw [hg]
      exact RRv_0.mpr ⟨q, by decide⟩
    · rw [hg, (RRv_0.mp hv).2]
      decide
  · refine Or.inl ⟨?_, fun v hv => q (RRv_0.mp hv).1⟩
    unfold Rch
    rw [e, z, pk_uLn q, h T (by omega)]
    exact fun r => Int64.lt_irrefl r
end
/-- choose's loop: sets below sv are looked at -/
def ChX (fj : Nat → Int64) (al sv : Nat) (dn : Int32) (bv : Int64) : Prop :=
  (dn = 0 ∧ bv = 1152921504606846976 ∧ ∀ T : Nat, T < sv → ¬ Rch fj T) ∨
  (∃ m : Nat, m ≤ 7 ∧ dn = nI m ∧ (∀ T : Nat, T < sv → Rch fj T → pc7 T < m ∨ (pc7 T = m ∧ bv.toInt ≤ (fj T).toInt + ((4 * wt7 (al ^^^ T) : Nat) : Int))) ∧ ∃ T : Nat, T < sv ∧ Rch fj T ∧ pc7 T = m ∧ bv.toInt = (fj T).toInt + ((4 * wt7 (al ^^^ T) : Nat) : Int))
section
variable {fj : Nat → Int64} {al sv : Nat} {dn : Int32} {bv v : Int64}
theorem ChX_0 : ChX fj al 0 0 1152921504606846976 := Or.inl ⟨rfl, rfl, fun T hT => absurd hT (Nat.not_lt_zero _)⟩
theorem ChX_no (h : ChX fj al sv dn bv) (hn : ¬ Rch fj sv ∨ ¬ dn ≤ nI (pc7 sv)) (hs : sv < 128) : ChX fj al (sv + 1) dn bv := by
  have p7 := pc7_le sv hs
  rcases h with ⟨a, b, c⟩ | ⟨m, a, b, c, T, d1, d2⟩
  · refine Or.inl ⟨a, b, fun T hT => ?_⟩
    by_cases q : T = sv
    · rcases hn with r | r
      · rw [q]; exact r
      · exact absurd (by rw [a]; exact nI_le (a := 0) (Nat.zero_le _) (by omega)) r
    · exact c T (by omega)
  · refine Or.inr ⟨m, a, b, fun T hT hR => ?_, T, by omega, d2⟩
    by_cases q : T = sv
    · rcases hn with r | r
      · rw [q] at hR; exact absurd hR r
      · refine Or.inl ?_
        rcases Nat.lt_or_ge (pc7 T) m with t | t
        · exact t
        · rw [q] at t
          exact absurd (by rw [b]; exact nI_le t (by omega)) r
    · exact c T (by omega) hR
theorem ChX_gt (h : ChX fj al sv dn bv) (hR : Rch fj sv) (hd : dn < nI (pc7 sv)) (hs : sv < 128) (hv : v.toInt = (fj sv).toInt + ((4 * wt7 (al ^^^ sv) : Nat) : Int)) : ChX fj al (sv + 1) (nI (pc7 sv)) v := by
  have p7 := pc7_le sv hs
  refine Or.inr ⟨pc7 sv, p7, rfl, fun T hT hR2 => ?_, sv, by omega, hR, rfl, hv⟩
  by_cases q : T = sv
  · rw [q]; exact Or.inr ⟨rfl, by omega⟩
  · refine Or.inl ?_
    rcases h with ⟨a, b, c⟩ | ⟨m, a, b, c, -⟩
    · exact absurd hR2 (c T (by omega))
    · rw [b] at hd
      have := nI_ltE (by omega) (by omega) hd
      rcases c T (by omega) hR2 with x | x <;> omega
theorem ChX_eq (h : ChX fj al sv dn bv) (hR : Rch fj sv) (hd : dn = nI (pc7 sv)) (hs : sv < 128) (hv : v.toInt = (fj sv).toInt + ((4 * wt7 (al ^^^ sv) : Nat) : Int)) (hlt : v.toInt < 1152921504606846976) : ChX fj al (sv + 1) (nI (pc7 sv)) (mnL bv v) := by
  have p7 := pc7_le sv hs
  obtain ⟨m1, m2, m3⟩ := mnL_i bv v
  refine Or.inr ⟨pc7 sv, p7, rfl, fun T hT hR2 => ?_, ?_⟩
  · by_cases q : T = sv
    · rw [q]; exact Or.inr ⟨rfl, by omega⟩
    · rcases h with ⟨a, b, c⟩ | ⟨m, a, b, c, -⟩
      · exact absurd hR2 (c T (by omega))
      · have em : m = pc7 sv := (nI_eq (by omega) (by omega)).mp (b.symm.trans hd)
        rw [← em]
        rcases c T (by omega) hR2 with x | ⟨x, y⟩
        · exact Or.inl x
        · exact Or.inr ⟨x, by omega⟩
  · rcases m3 with m3 | m3
    · rcases h with ⟨a, b, c⟩ | ⟨m, a, b, c, T, d1, d2, d3, d4⟩
      · rw [m3, b, un_i] at m2
        omega
      · have em : m = pc7 sv := (nI_eq (by omega) (by omega)).mp (b.symm.trans hd)
        rw [← em, m3]
        exact ⟨T, by omega, d2, d3, d4⟩
    · exact ⟨sv, by omega, hR, rfl, by rw [m3]; exact hv⟩
/-- the value of a set, exactly -/
theorem val4 {B : Int} (hB0 : 0 ≤ B) (hB1 : B ≤ 1000000000000000) {u w v : Int64} (hu : bdL B u) (hlt : u < 1152921504606846976) {a : Nat} (ha : a ≤ 19531) (hw : w.toInt = (a : Int)) (hv : v = u + 4 * w) : v.toInt = u.toInt + ((4 * a : Nat) : Int) ∧ v.toInt < 1152921504606846976 := by
  have hu2 : -B ≤ u.toInt ∧ u.toInt ≤ B := by
    rcases hu with q | q
    · rw [q] at hlt
      exact absurd hlt (fun h => Int64.lt_irrefl h)
    · exact q
  have e1 := mulL (x := 4) (y := w) (a := 4) (by decide) hw (by omega) (by omega)
  have e2 := addL (x := u) (y := 4 * w) rfl e1 (by omega) (by omega)
  rw [← hv] at e2
  omega
end
