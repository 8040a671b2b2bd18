/-- the deliveries below m that g gives to i, as a set -/
def setOf (g : Nat → Nat) (i : Nat) : Nat → Nat
  | 0 => 0
  | m + 1 => if g m = i then setOf g i m ||| (1 <<< m) else setOf g i m
/-- those that it gives to somebody below c -/
def unOf (g : Nat → Nat) (c : Nat) : Nat → Nat
  | 0 => 0
  | m + 1 => if g m < c then unOf g c m ||| (1 <<< m) else unOf g c m
/-- how many of them -/
def cnt (g : Nat → Nat) : Nat → Nat
  | 0 => 0
  | m + 1 => if g m < 4 then cnt g m + 1 else cnt g m
theorem tb_or (s m d : Nat) : Nat.testBit (s ||| (1 <<< m)) d = (Nat.testBit s d || decide (m = d)) := by
  rw [Nat.testBit_or, Nat.one_shiftLeft, Nat.testBit_two_pow]
theorem setOf_bit (g : Nat → Nat) (i : Nat) : ∀ m d : Nat, Nat.testBit (setOf g i m) d = decide (d < m ∧ g d = i) := by
  intro m
  induction m with
  | zero =>
    intro d
    simp [setOf]
  | succ m ih =>
    intro d
    unfold setOf
    by_cases h : g m = i
    · rw [if_pos h, tb_or, ih d]
      by_cases e : m = d
      · subst e
        simp [h]
      · have : (d < m + 1 ∧ g d = i) ↔ (d < m ∧ g d = i) := ⟨fun q => ⟨by omega, q.2⟩, fun q => ⟨by omega, q.2⟩⟩
        simp [e, this]
    · rw [if_neg h, ih d]
      have : (d < m + 1 ∧ g d = i) ↔ (d < m ∧ g d = i) := by
        refine ⟨fun q => ⟨?_, q.2⟩, fun q => ⟨by omega, q.2⟩⟩
        rcases Nat.lt_or_ge d m with r | r
        · exact r
        · have : d = m := by omega
          exact absurd (this ▸ q.2) h
      simp [this]
theorem unOf_bit (g : Nat → Nat) (c : Nat) : ∀ m d : Nat, Nat.testBit (unOf g c m) d = decide (d < m ∧ g d < c) := by
  intro m
  induction m with
  | zero =>
    intro d
    simp [unOf]
  | succ m ih =>
    intro d
    unfold unOf
    by_cases h : g m < c
    · rw [if_pos h, tb_or, ih d]
      by_cases e : m = d
      · subst e
        simp [h]
      · have : (d < m + 1 ∧ g d < c) ↔ (d < m ∧ g d < c) := ⟨fun q => ⟨by omega, q.2⟩, fun q => ⟨by omega, q.2⟩⟩
        simp [e, this]
    · rw [if_neg h, ih d]
      have : (d < m + 1 ∧ g d < c) ↔ (d < m ∧ g d < c) := by
        refine ⟨fun q => ⟨?_, q.2⟩, fun q => ⟨by omega, q.2⟩⟩
        rcases Nat.lt_or_ge d m with r | r
        · exact r
        · have : d = m := by omega
          exact absurd (this ▸ q.2) h
      simp [this]
theorem set_lt {s m : Nat} (h : ∀ d : Nat, m ≤ d → Nat.testBit s d = false) : s < 2 ^ m := Nat.lt_pow_two_of_testBit s (fun d hd => h d hd)
theorem setOf_lt (g : Nat → Nat) (i m : Nat) : setOf g i m < 2 ^ m := set_lt (fun d hd => by rw [setOf_bit]; exact decide_eq_false (fun q => by omega))
theorem unOf_lt (g : Nat → Nat) (c m : Nat) : unOf g c m < 2 ^ m := set_lt (fun d hd => by rw [unOf_bit]; exact decide_eq_false (fun q => by omega))
theorem lt_128 {s m : Nat} (h : s < 2 ^ m) (hm : m ≤ 7) : s < 128 := Nat.lt_of_lt_of_le h (Nat.pow_le_pow_right (n := 2) (by decide) hm)
theorem pc_setOf (g : Nat → Nat) (i : Nat) : ∀ m : Nat, m ≤ 6 → pc7 (setOf g i (m + 1)) = pc7 (setOf g i m) + if g m = i then 1 else 0 := by
  intro m hm
  show pc7 (if g m = i then setOf g i m ||| (1 <<< m) else setOf g i m) = _
  by_cases h : g m = i
  · rw [if_pos h, if_pos h]
    exact pc7_or _ (lt_128 (setOf_lt g i m) (by omega)) m (by omega) (by rw [setOf_bit]; exact decide_eq_false (fun q => by omega))
  · rw [if_neg h, if_neg h]; rfl
theorem pc_unOf (g : Nat → Nat) : ∀ m : Nat, m ≤ 7 → pc7 (unOf g 4 m) = cnt g m := by
  intro m
  induction m with
  | zero =>
    intro _
    show pc7 0 = 0
    decide
  | succ m ih =>
    intro hm
    have ih := ih (by omega)
    show pc7 (if g m < 4 then unOf g 4 m ||| (1 <<< m) else unOf g 4 m) = if g m < 4 then cnt g m + 1 else cnt g m
    by_cases h : g m < 4
    · rw [if_pos h, if_pos h, pc7_or _ (lt_128 (unOf_lt g 4 m) (by omega)) m (by omega) (by rw [unOf_bit]; exact decide_eq_false (fun q => by omega)), ih]
    · rw [if_neg h, if_neg h, ih]
theorem pc_sum (g : Nat → Nat) : ∀ m : Nat, m ≤ 7 → pc7 (setOf g 0 m) + pc7 (setOf g 1 m) + pc7 (setOf g 2 m) + pc7 (setOf g 3 m) = cnt g m := by
  intro m
  induction m with
  | zero =>
    intro _
    show pc7 0 + pc7 0 + pc7 0 + pc7 0 = 0
    decide
  | succ m ih =>
    intro hm
    have ih := ih (by omega)
    rw [pc_setOf g 0 m (by omega), pc_setOf g 1 m (by omega), pc_setOf g 2 m (by omega), pc_setOf g 3 m (by omega)]
    show _ = if g m < 4 then cnt g m + 1 else cnt g m
    by_cases h : g m < 4
    · rw [if_pos h, ← ih]
      rcases (show g m = 0 ∨ g m = 1 ∨ g m = 2 ∨ g m = 3 by omega) with e | e | e | e <;> simp [e] <;> omega
    · rw [if_neg h, ← ih, if_neg (by omega), if_neg (by omega), if_neg (by omega), if_neg (by omega)]
      omega
/-- S is done by crews below c, each of which can do its own -/
def RR (K : Nat → Nat → Prop) (c S : Nat) : Prop := ∃ g : Nat → Nat, S = unOf g c 7 ∧ ∀ i : Nat, i < c → K i (setOf g i 7)
theorem RR_0 {K : Nat → Nat → Prop} {S : Nat} : RR K 0 S ↔ S = 0 := by
  have z : ∀ g : Nat → Nat, unOf g 0 7 = 0 := fun g => Nat.eq_of_testBit_eq (fun d => by rw [unOf_bit, Nat.zero_testBit]; exact decide_eq_false (fun q => by omega))
  refine ⟨fun ⟨g, h, _⟩ => h.trans (z g), fun h => ⟨fun _ => 9, h.trans (z _).symm, fun i hi => absurd hi (Nat.not_lt_zero _)⟩⟩
theorem RR_skip {K : Nat → Nat → Prop} {c S : Nat} (h0 : K c 0) (h : RR K c S) : RR K (c + 1) S := by
  obtain ⟨g, e, hg⟩ := h
  have sb : ∀ d : Nat, (if g d < c then g d else c + 1) < c + 1 ↔ g d < c := by
    intro d
    by_cases q : g d < c
    · rw [if_pos q]; omega
    · rw [if_neg q]; omega
  refine ⟨fun d => if g d < c then g d else c + 1, ?_, fun i hi => ?_⟩
  · rw [e]
    exact Nat.eq_of_testBit_eq (fun d => by rw [unOf_bit, unOf_bit]; simp only [sb d])
  · by_cases q : i < c
    · have : setOf (fun d => if g d < c then g d else c + 1) i 7 = setOf g i 7 := Nat.eq_of_testBit_eq (fun d => by
        rw [setOf_bit, setOf_bit]
        have : ((if g d < c then g d else c + 1) = i) ↔ g d = i := by
          by_cases r : g d < c
          · rw [if_pos r]
          · rw [if_neg r]; omega
        simp only [this])
      rw [this]; exact hg i q
    · have e2 : i = c := by omega
      subst e2
      have : setOf (fun d => if g d < i then g d else i + 1) i 7 = 0 := Nat.eq_of_testBit_eq (fun d => by
        rw [setOf_bit, Nat.zero_testBit]
        refine decide_eq_false (fun q2 => ?_)
        have q3 := q2.2
        by_cases r : g d < i
        · simp only [if_pos r] at q3; omega
        · simp only [if_neg r] at q3; omega)
      rw [this]; exact h0
theorem sub_bit {q S d : Nat} (h : q &&& S = q) (hd : Nat.testBit q d = true) : Nat.testBit S d = true := by
  rw [← h, Nat.testBit_and, Bool.and_eq_true] at hd
  exact hd.2
theorem RR_join {K : Nat → Nat → Prop} {c S q : Nat} (hS : S < 128) (hq : q &&& S = q) (hK : K c q) (h : RR K c (S ^^^ q)) : RR K (c + 1) S := by
  obtain ⟨g, e, hg⟩ := h
  have eb : ∀ d : Nat, (Nat.testBit S d ^^ Nat.testBit q d) = decide (d < 7 ∧ g d < c) := fun d => by rw [← Nat.testBit_xor, e, unOf_bit]
  have q7 : ∀ d : Nat, Nat.testBit q d = true → d < 7 := fun d hd => by
    rcases Nat.lt_or_ge d 7 with r | r
    · exact r
    · have := sub_bit hq hd
      rw [Nat.testBit_lt_two_pow (Nat.lt_of_lt_of_le hS (Nat.pow_le_pow_right (n := 2) (by decide) r))] at this
      cases this
  have qg : ∀ d : Nat, Nat.testBit q d = true → ¬ g d < c := fun d hd r => by
    have h1 := eb d
    rw [sub_bit hq hd, hd, decide_eq_true ⟨q7 d hd, r⟩] at h1
    cases h1
  refine ⟨fun d => if Nat.testBit q d then c else if g d < c then g d else c + 1, ?_, fun i hi => ?_⟩
  · refine Nat.eq_of_testBit_eq (fun d => ?_)
    rw [unOf_bit]
    have h1 := eb d
    cases hd : Nat.testBit q d with
    | true =>
      rw [sub_bit hq hd]
      exact (decide_eq_true ⟨q7 d hd, by simp only [if_true]; omega⟩).symm
    | false =>
      rw [hd, Bool.xor_false] at h1
      rw [h1]
      have : (if g d < c then g d else c + 1) < c + 1 ↔ g d < c := by
        by_cases r : g d < c
        · rw [if_pos r]; omega
        · rw [if_neg r]; omega
      simp only [Bool.false_eq_true, if_false, this]
  · by_cases r : i < c
    · have : setOf (fun d => if Nat.testBit q d then c else if g d < c then g d else c + 1) i 7 = setOf g i 7 := Nat.eq_of_testBit_eq (fun d => by
        rw [setOf_bit, setOf_bit]
        have : ((if Nat.testBit q d then c else if g d < c then g d else c + 1) = i) ↔ g d = i := by
          cases hd : Nat.testBit q d with
          | true =>
            have := qg d hd
            simp only [if_true]
            omega
          | false =>
            simp only [Bool.false_eq_true, if_false]
            by_cases r2 : g d < c
            · rw [if_pos r2]
            · rw [if_neg r2]; omega
        simp only [this])
      rw [this]; exact hg i r
    · have e2 : i = c := by omega
      subst e2
      have : setOf (fun d => if Nat.testBit q d then i else if g d < i then g d else i + 1) i 7 = q := Nat.eq_of_testBit_eq (fun d => by
        rw [setOf_bit]
        cases hd : Nat.testBit q d with
        | true => exact decide_eq_true ⟨q7 d hd, by simp only [if_true]⟩
        | false =>
          refine decide_eq_false (fun q2 => ?_)
          have q3 := q2.2
          simp only [Bool.false_eq_true, if_false] at q3
          by_cases r2 : g d < i
          · simp only [if_pos r2] at q3; omega
          · simp only [if_neg r2] at q3; omega)
      rw [this]; exact hK
theorem RR_inv {K : Nat → Nat → Prop} {c S : Nat} (h : RR K (c + 1) S) : RR K c S ∨ ∃ q : Nat, 0 < q ∧ q &&& S = q ∧ K c q ∧ RR K c (S ^^^ q) := by
  obtain ⟨g, e, hg⟩ := h
  have sbit : ∀ d : Nat, Nat.testBit S d = decide (d < 7 ∧ g d < c + 1) := fun d => by rw [e, unOf_bit]
  by_cases z : setOf g c 7 = 0
  · refine Or.inl ⟨g, ?_, fun i hi => hg i (by omega)⟩
    refine Nat.eq_of_testBit_eq (fun d => ?_)
    rw [sbit, unOf_bit]
    have hz : ¬ (d < 7 ∧ g d = c) := fun q => by
      have := setOf_bit g c 7 d
      rw [z, Nat.zero_testBit, decide_eq_true q] at this
      cases this
    have : (d < 7 ∧ g d < c + 1) ↔ (d < 7 ∧ g d < c) := ⟨fun q => ⟨q.1, (Nat.lt_or_ge (g d) c).elim id (fun r => absurd ⟨q.1, by omega⟩ hz)⟩, fun q => ⟨q.1, by omega⟩⟩
    simp only [this]
  · refine Or.inr ⟨setOf g c 7, Nat.pos_of_ne_zero z, ?_, hg c (by omega), g, ?_, fun i hi => hg i (by omega)⟩
    · refine Nat.eq_of_testBit_eq (fun d => ?_)
      rw [Nat.testBit_and, sbit, setOf_bit]
      by_cases q : d < 7 ∧ g d = c
      · rw [decide_eq_true q, decide_eq_true (show d < 7 ∧ g d < c + 1 from ⟨q.1, by omega⟩)]; rfl
      · rw [decide_eq_false q]; rfl
    · refine Nat.eq_of_testBit_eq (fun d => ?_)
      rw [Nat.testBit_xor, sbit, setOf_bit, unOf_bit]
      by_cases a : d < 7
      · by_cases b : g d = c
        · rw [decide_eq_true (show d < 7 ∧ g d < c + 1 from ⟨a, by omega⟩), decide_eq_true (show d < 7 ∧ g d = c from ⟨a, b⟩), decide_eq_false (show ¬ (d < 7 ∧ g d < c) from fun q => by omega)]; rfl
        · rw [decide_eq_false (show ¬ (d < 7 ∧ g d = c) from fun q => b q.2), Bool.xor_false]
          have : (d < 7 ∧ g d < c + 1) ↔ (d < 7 ∧ g d < c) := ⟨fun q => ⟨q.1, by omega⟩, fun q => ⟨q.1, by omega⟩⟩
          simp only [this]
      · rw [decide_eq_false (show ¬ (d < 7 ∧ g d < c + 1) from fun q => a q.1), decide_eq_false (show ¬ (d < 7 ∧ g d = c) from fun q => a q.1), decide_eq_false (show ¬ (d < 7 ∧ g d < c) from fun q => a q.1)]; rfl
theorem and_odd {a b : Nat} (ha : a % 2 = 1) (hb : b % 2 = 1) : (a &&& b) % 2 = 1 := by
  have h := Nat.testBit_and a b 0
  rw [Nat.testBit_zero, Nat.testBit_zero, Nat.testBit_zero, decide_eq_true ha, decide_eq_true hb] at h
  exact of_decide_eq_true h
/-- (p - 1) & s is the next lesser part of s -/
theorem sub_next : ∀ (b s p q : Nat), s < 2 ^ b → p &&& s = p → q &&& s = q → q < p → q ≤ (p - 1) &&& s := by
  intro b
  induction b with
  | zero =>
    intro s p q hs hp hq hlt
    have e : s = 0 := by omega
    rw [e, Nat.and_zero] at hp
    omega
  | succ b ih =>
    intro s p q hs hp hq hlt
    have hs2 : s / 2 < 2 ^ b := by rw [Nat.pow_succ] at hs; omega
    have hp2 : p / 2 &&& s / 2 = p / 2 := by rw [← Nat.and_div_two, hp]
    have hq2 : q / 2 &&& s / 2 = q / 2 := by rw [← Nat.and_div_two, hq]
    have hqm : q % 2 = 1 → s % 2 = 1 := fun h => by
      have h2 := sub_bit hq (d := 0) (by rw [Nat.testBit_zero]; exact decide_eq_true h)
      rw [Nat.testBit_zero] at h2
      exact of_decide_eq_true h2
    have hd : ((p - 1) &&& s) / 2 = (p - 1) / 2 &&& s / 2 := Nat.and_div_two
    rcases Nat.mod_two_eq_zero_or_one p with r | r
    · have h1 : (p - 1) / 2 = p / 2 - 1 := by omega
      have h2 : (p - 1) % 2 = 1 := by omega
      have h3 : q / 2 < p / 2 := by omega
      have := ih (s / 2) (p / 2) (q / 2) hs2 hp2 hq2 h3
      rw [h1] at hd
      rcases Nat.mod_two_eq_zero_or_one s with t | t
      · have : q % 2 = 0 := by
          rcases Nat.mod_two_eq_zero_or_one q with u | u
          · exact u
          · have := hqm u; omega
        omega
      · have e := and_odd h2 t
        omega
    · have h1 : (p - 1) / 2 = p / 2 := by omega
      rw [h1, hp2] at hd
      omega
