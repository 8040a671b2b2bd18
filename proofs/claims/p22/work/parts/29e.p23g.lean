theorem up_e {x : Int32} {c1 : Nat → Int32} {ax : Nat} (ha : ax < 2 ^ 31) (e : x = c1 (nI ax).toNatClampNeg) : x = c1 ax := by
  rw [nI_clamp ha] at e
  exact e
theorem up_lt {x pd : Int32} {c1 : Nat → Int32} {ax : Nat} (ha : ax < 2 ^ 31) (e : x = c1 (nI ax).toNatClampNeg) (c : pd < x) : pd < c1 ax := by
  rw [← up_e ha e]
  exact c
theorem up_nlt {x pd : Int32} {c1 : Nat → Int32} {ax : Nat} (ha : ax < 2 ^ 31) (e : x = c1 (nI ax).toNatClampNeg) (c : ¬ pd < x) : ¬ pd < c1 ax := by
  rw [← up_e ha e]
  exact c
theorem up_ge {x pd : Int32} {c1 : Nat → Int32} {ax : Nat} (ha : ax < 2 ^ 31) (e : x = c1 (nI ax).toNatClampNeg) (c : x ≤ pd) : ¬ pd < c1 ax := by
  rw [← up_e ha e]
  exact Int32.not_lt.mpr c
theorem up_lt2 {x pd : Int32} {c1 : Nat → Int32} {ax : Nat} (ha : ax < 2 ^ 31) (e : x = c1 (nI ax).toNatClampNeg) (c : ¬ x ≤ pd) : pd < c1 ax := by
  rw [← up_e ha e]
  exact Int32.not_le.mp c
theorem cp_next {f f' g : Nat → Int32} {k : Nat} {v : Int32} (h : ∀ j : Nat, j < k → f j = g j) (e : f' = upd f k v) (ev : v = g k) : ∀ j : Nat, j < k + 1 → f' j = g j := by
  intro j hj
  rw [e]
  by_cases q : j = k
  · rw [q, pk_us, ev]
  · rw [pk_un q]; exact h j (by omega)
theorem m1_next {f f' : Nat → Int32} {k : Nat} (h : ∀ j : Nat, j < k → f j = -1) (e : f' = upd f k (-1)) : ∀ j : Nat, j < k + 1 → f' j = -1 := by
  intro j hj
  rw [e]
  by_cases q : j = k
  · rw [q, pk_us]
  · rw [pk_un q]; exact h j (by omega)
theorem st_put {gp : Nat → Nat} {sts f : Nat → Int32} {c d : Nat} (hS : ∀ i : Nat, i < 4 → sts i = nI (setOf gp i d)) (hf : ∀ i : Nat, i < 4 → f i = put sts c d i) : ∀ i : Nat, i < 4 → f i = nI (setOf (pg gp d c) i (d + 1)) := by
  intro i hi
  rw [hf i hi]
  exact put_g (g := pg gp d c) (fun i hi => by rw [hS i hi, setOf_cg9 (g := gp) (g' := pg gp d c) (fun k hk => (pg_lt hk).symm)]) pg_at i hi
theorem st_none {gp : Nat → Nat} {sts f : Nat → Int32} {d : Nat} (hS : ∀ i : Nat, i < 4 → sts i = nI (setOf gp i d)) (hf : ∀ i : Nat, i < 4 → f i = sts i) : ∀ i : Nat, i < 4 → f i = nI (setOf (pg gp d 4) i (d + 1)) := by
  intro i hi
  rw [hf i hi]
  exact put_4 (g := pg gp d 4) (fun i hi => by rw [hS i hi, setOf_cg9 (g := gp) (g' := pg gp d 4) (fun k hk => (pg_lt hk).symm)]) (by rw [pg_at]; omega) i hi
section
variable {F : Nat → Nat → Prop} {C : Nat → Nat → Int} {n d : Nat} {bd bc : Int32} {bg : Nat → Int32} {gp : Nat → Nat}
theorem BG_M {M M' : Nat} (e : M = M') (h : BG F C n M bd bc bg) : BG F C n M' bd bc bg := e ▸ h
theorem BG_pre (e : n = d) (h : BG F C n (hN gp d * 5 ^ (n - d)) bd bc bg) : BG F C n (hN gp n) bd bc bg := by
  subst e
  rw [Nat.sub_self, Nat.pow_zero, Nat.mul_one] at h
  exact h
theorem BG_post (e : n = d) (h : BG F C n (hN gp n + 1) bd bc bg) : BG F C n ((hN gp d + 1) * 5 ^ (n - d)) bd bc bg := by
  subst e
  rw [Nat.sub_self, Nat.pow_zero, Nat.mul_one]
  exact h
theorem co_0 (C : Nat → Nat → Int) (g : Nat → Nat) (n : Nat) : (0 : Int32).toInt = vsm C g n 0 ∧ 0 ≤ (0 : Int32).toInt ∧ (0 : Int32).toInt ≤ 70000 * ((0 : Nat) : Int) := ⟨(show (0 : Int32).toInt = 0 by decide), by decide, by decide⟩
theorem cost_nx {g : Nat → Nat} {c c2 : Nat} {co x co2 : Int32} (h : co.toInt = vsm C g n c ∧ 0 ≤ co.toInt ∧ co.toInt ≤ 70000 * (c : Int)) (hx : x.toInt = C c (setOf g c n)) (hb : 0 ≤ C c (setOf g c n) ∧ C c (setOf g c n) ≤ 70000) (e : co2 = co + x) (hc : c2 = c + 1) (h4 : c < 4) : co2.toInt = vsm C g n c2 ∧ 0 ≤ co2.toInt ∧ co2.toInt ≤ 70000 * (c2 : Int) := by
  subst hc
  have s := addI (x := co) (y := x) rfl rfl (by omega) (by omega)
  have v : vsm C g n (c + 1) = vsm C g n c + C c (setOf g c n) := rfl
  rw [e, s, v]
  omega
theorem F4_all (h0 : F 0 (setOf gp 0 n)) (h1 : F 1 (setOf gp 1 n)) (h2 : F 2 (setOf gp 2 n)) (h3 : F 3 (setOf gp 3 n)) : ∀ i : Nat, i < 4 → F i (setOf gp i n) := by
  intro i hi
  rcases (show i = 0 ∨ i = 1 ∨ i = 2 ∨ i = 3 by omega) with rfl | rfl | rfl | rfl
  · exact h0
  · exact h1
  · exact h2
  · exact h3
end
theorem gx_lt {m : Nat} {bd : Int32} (hm : m < 2 ^ 31) (c : nI m < bd) : (m : Int) < bd.toInt := by
  rw [ii_lt, nI_toInt hm] at c
  exact c
theorem gx_eq {m : Nat} {bd : Int32} (hm : m < 2 ^ 31) (c : nI m = bd) : (m : Int) = bd.toInt := by rw [← c, nI_toInt hm]
theorem gx_gt {m : Nat} {bd : Int32} (hm : m < 2 ^ 31) (c : ¬ nI m < bd) (c2 : ¬ nI m = bd) : bd.toInt < (m : Int) := by
  rw [ii_lt, nI_toInt hm] at c
  have q : ¬ (m : Int) = bd.toInt := fun q => c2 ((ii_eq _ _).mpr (by rw [nI_toInt hm]; exact q))
  omega
theorem gx_le {co bc : Int32} (c : ¬ co < bc) : bc.toInt ≤ co.toInt := (ii_le _ _).mp (Int32.not_lt.mp c)
theorem zz_0 {zz : Int32} {z : Nat} (h : zz = nI z - 1) (c : zz < 0) (hz : z ≤ 7 := by omega) : z = 0 := by
  rcases Nat.eq_zero_or_pos z with q | q
  · exact q
  · rw [h, nI_dec q] at c
    exact absurd c (nI_pos (by omega))
theorem pc7_pos {s : Nat} (h : 0 < pc7 s) : 0 < s := by
  rcases Nat.eq_zero_or_pos s with q | q
  · rw [q] at h
    exact absurd h (by decide)
  · exact q
/-- rows of crews below k are worked out, the others as they were laid -/
def plN (D : DT) (n : Nat) (d6 d7 c o : Nat → Int32) (k : Nat) : Prop :=
  (∀ i : Nat, i < k → ((¬ d6 i = -1) → SrN D n (d6 i) (d7 i) i c o) ∧ (d6 i = -1 → ∀ z : Nat, 0 < z → z < 128 → c (128 * i + z) = -1) ∧ c (128 * i) = 0) ∧
  (∀ i : Nat, k ≤ i → i < 4 → (∀ z : Nat, 0 < z → z < 128 → c (128 * i + z) = -1) ∧ c (128 * i) = 0)
section
variable {D : DT} {n : Nat} {d6 d7 c o c' o' : Nat → Int32} {k : Nat}
theorem plN_0 (h : row0 c 512) : plN D n d6 d7 c o 0 := by
  refine ⟨fun i hi => absurd hi (Nat.not_lt_zero _), fun i _ hi => ⟨fun z h0 hz => (h (128 * i + z) (by omega)).2 (by omega), (h (128 * i) (by omega)).1 (by omega)⟩⟩
theorem plN_o (h : plN D n d6 d7 c o k) (e : o' = upd o (128 * k) 0) : plN D n d6 d7 c o' k := by
  refine ⟨fun i hi => ⟨fun hd S h0 hS => ?_, (h.1 i hi).2⟩, h.2⟩
  rw [e, pk_un (by omega)]
  exact (h.1 i hi).1 hd S h0 hS
theorem plN_row (h : plN D n d6 d7 c o k) (hk : k < 4) : (∀ S : Nat, 0 < S → S < 128 → c (128 * k + S) = -1) ∧ c (128 * k) = 0 := h.2 k (Nat.le_refl _) hk
theorem plN_none (h : plN D n d6 d7 c o k) (hk : k < 4) (hd : d6 k = -1) : plN D n d6 d7 c o (k + 1) := by
  refine ⟨fun i hi => ?_, fun i h1 h2 => h.2 i (by omega) h2⟩
  by_cases q : i = k
  · subst q
    exact ⟨fun r => absurd hd r, fun _ => (h.2 i (Nat.le_refl _) hk).1, (h.2 i (Nat.le_refl _) hk).2⟩
  · exact h.1 i (by omega)
theorem plN_told (hn : n ≤ 7) (h : plN D n d6 d7 c o k) (hk : k < 4) (hd : ¬ d6 k = -1) (hX : TrN D n (d6 k) (d7 k) k c o (fun _ _ _ _ _ => False) c' o' 0 (d6 k) (d7 k) 0 []) : plN D n d6 d7 c' o' (k + 1) := by
  obtain ⟨s1, s2, s3⟩ := SrN_of hn hX
  refine ⟨fun i hi => ?_, fun i h1 h2 => ⟨fun z h0 hz => ?_, ?_⟩⟩
  · by_cases q : i = k
    · subst q
      exact ⟨fun _ => s1, fun r => absurd r hd, s3⟩
    · refine ⟨fun r S h0 hS => ?_, fun r z h0 hz => ?_, ?_⟩
      · obtain ⟨e1, e2⟩ := s2 (128 * i + S) (by omega)
        rw [e1, e2]
        exact (h.1 i (by omega)).1 r S h0 hS
      · rw [(s2 (128 * i + z) (by omega)).1]
        exact (h.1 i (by omega)).2.1 r z h0 hz
      · rw [(s2 (128 * i) (by omega)).1]
        exact (h.1 i (by omega)).2.2
  · rw [(s2 (128 * i + z) (by omega)).1]
    exact (h.2 i (by omega) h2).1 z h0 hz
  · rw [(s2 (128 * i) (by omega)).1]
    exact (h.2 i (by omega) h2).2
theorem plN_K (hn : n ≤ 7) (h : plN D n d6 d7 c o 4) : ∀ i : Nat, i < 4 → ∀ z : Nat, z < 128 → ((¬ c (128 * i + z) = -1) ↔ Fq D n d6 d7 i z) ∧ ((¬ c (128 * i + z) = -1) → (c (128 * i + z)).toInt = Cq D n d6 d7 i z) := by
  intro i hi z hz
  obtain ⟨a, b, e⟩ := h.1 i hi
  rcases Nat.eq_zero_or_pos z with q | q
  · subst q
    rw [Nat.add_zero, e, Cq_0 hn]
    exact ⟨⟨fun _ => Fq_0, fun _ => by decide⟩, fun _ => by decide⟩
  · by_cases hd : d6 i = -1
    · rw [b hd z q hz]
      exact ⟨⟨fun r => absurd rfl r, fun r => absurd r (Fq_no hd z q)⟩, fun r => absurd rfl r⟩
    · exact SrN_F hn hd (a hd) z q hz
theorem plN_rw (hn : n ≤ 7) (h : plN D n d6 d7 c o 4) : ∀ i : Nat, i < 4 → ∀ (q : Nat) (co : Int) (l : List Nat), 0 < q → q < 128 → KL D n d6 d7 i q co l → o (128 * i + q) = nI (rowM l) := fun i hi q co l h0 hq k => SrN_row hn (h.1 i hi).1 h0 hq k
theorem day_nextM {f f2 : Nat → Int32} {ls : Nat → List Nat} {m : Nat} (hF : ∀ j : Nat, j < m → f j = dayF D d6 d7 ls k j) (h : f2 = Rn D (d6 k) (d7 k) f (ls k)) : ∀ j : Nat, j < m → f2 j = dayF D d6 d7 ls (k + 1) j := by
  intro j hj
  rw [h]
  exact Rn_cg hF (ls k) j hj
end
