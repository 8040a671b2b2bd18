/-- a world's numbers: the classes' numbers and slots; the array classes of int, boolean, long, byte, Boat -/
abbrev vE : Type := va_G × (Nat → ClassId) × (Nat → Nat) × (Nat → Nat)
def tyv (E : vE) : List (ClassId × FieldType) := [(E.2.1 0, .int), (E.2.1 1, .boolean), (E.2.1 2, .long), (E.2.1 3, .byte), (E.2.1 4, .object RX0)]
def nestw : List Cond := [.methodLinkNest RX11 9 yX9_init "BoatsHome", .methodLinkNest RX11 27 yX8_init "BoatsHome", .methodLinkNest RX11 38 yX0_init "BoatsHome", .methodLinkNest RX11 57 yX7_init "BoatsHome", .methodLinkNest RX11 64 yX1_init "BoatsHome", .methodLinkNest RX0 24 yX7_init "BoatsHome", .methodLinkNest RX0 31 yX1_init "BoatsHome", .methodLinkNest RX0 38 yX4_init "BoatsHome", .methodLinkNest RX0 49 yX11_below "BoatsHome", .methodLinkNest RX1 32 yX11_columnOf "BoatsHome", .methodLinkNest RX1 39 yX11_rowOf "BoatsHome", .methodLinkNest RX1 54 yX11_within "BoatsHome", .methodLinkNest RX2 46 yX11_below "BoatsHome", .methodLinkNest RX4 62 yX11_below "BoatsHome", .methodLinkNest RX4 159 yX11_columnOf "BoatsHome", .methodLinkNest RX4 167 yX11_rowOf "BoatsHome", .methodLinkNest RX7 29 yX11_below "BoatsHome", .methodLinkNest RX8 18 yX11_rowOf "BoatsHome", .methodLinkNest RX8 22 yX11_columnOf "BoatsHome", .methodLinkNest RX8 25 yX11_below "BoatsHome", .fieldLinkNest RX6 140 "BoatsHome" "BOX_BOUNDS" "[I" "BoatsHome", .fieldLinkNest RX4 153 "BoatsHome" "COURSES" "[I" "BoatsHome", .fieldLinkNest RX5 101 "BoatsHome" "ROW_WEIGHTS" "[I" "BoatsHome"]
def nest (U : State) : Prop := ∀ w, w ∈ nestw → va_Nw w U
/-- the string constants: where they are loaded, what they hold -/
def sOwn : Nat → String := fun i => match i with | 16 => RX12 | _ => RX6
def sIdx : Nat → Nat := fun i => match i with | 0 => 64 | 1 => 77 | 2 => 79 | 3 => 81 | 4 => 83 | 5 => 89 | 6 => 91 | 7 => 93 | 8 => 99 | 9 => 104 | 10 => 106 | 11 => 108 | 12 => 114 | 13 => 136 | 14 => 138 | 15 => 122 | _ => 158
def sTx : Nat → String := fun i => match i with | 0 => "when" | 1 => "force" | 2 => "water" | 3 => "day" | 4 => "broken" | 5 => "above" | 6 => "below" | 7 => "" | 8 => "do" | 9 => "wait" | 10 => "turn" | 11 => "end" | 12 => "box" | 13 => "from" | 14 => "to" | 15 => "crew" | _ => "when force water day broken above below do wait turn end box from to crew "
def sLen : List Nat := [4, 5, 5, 3, 6, 5, 5, 0, 2, 4, 4, 3, 3, 4, 2, 4, 74]
def sByt : List (List Int32) := [[119, 104, 101, 110], [102, 111, 114, 99, 101], [119, 97, 116, 101, 114], [100, 97, 121], [98, 114, 111, 107, 101, 110], [97, 98, 111, 118, 101], [98, 101, 108, 111, 119], [], [100, 111], [119, 97, 105, 116], [116, 117, 114, 110], [101, 110, 100], [98, 111, 120], [102, 114, 111, 109], [116, 111], [99, 114, 101, 119], [119, 104, 101, 110, 32, 102, 111, 114, 99, 101, 32, 119, 97, 116, 101, 114, 32, 100, 97, 121, 32, 98, 114, 111, 107, 101, 110, 32, 97, 98, 111, 118, 101, 32, 98, 101, 108, 111, 119, 32, 100, 111, 32, 119, 97, 105, 116, 32, 116, 117, 114, 110, 32, 101, 110, 100, 32, 98, 111, 120, 32, 102, 114, 111, 109, 32, 116, 111, 32, 99, 114, 101, 119, 32]]
def strs (E : vE) (U : State) : Prop := ∀ i : Nat, i < 17 → vk_R (sOwn i) (sIdx i) (sTx i) (E.2.2.1 i) U
def kn (E : vE) (U : State) : Prop := va_K E.1 vwCl (tyv E) U ∧ nest U ∧ va_AO RX0 U ∧ strs E U
abbrev wB (E : vE) (A : Nat → Prop) (cs : va_W) (t : State) : Prop := va_P E.1 vwCl cs t.heap ∧ va_D A cs
/-- the class's three static rows of numbers, which nobody writes -/
def sWf : Nat → Value := fun j => .int (match j with | 0 => 15625 | 1 => 3125 | 2 => 625 | 3 => 125 | 4 => 25 | 5 => 5 | _ => 1)
def sCf : Nat → Value := fun j => .int (match j with | 0 => 7 | 1 => 0 | 2 => 1 | 3 => 6 | 4 => 0 | 5 => 2 | 6 => 5 | 7 => 4 | _ => 3)
def sBf : Nat → Value := fun j => .int (match j with | 0 => 29 | 1 => 19 | 2 => 29 | 3 => 19 | 4 => 359 | _ => 359)
def st1 (n : String) (k : Nat) (f : Nat → Value) (A : Nat → Prop) (U : State) (H : Heap) : Prop := ∃ t : Nat, va_Z RX11 n "[I" (.ref t) A U H ∧ va_T .int t k f A U H
def stC (A : Nat → Prop) (U : State) (H : Heap) : Prop := va_Z RJ0 "COMPACT_STRINGS" "Z" (.int 1) A U H ∧ va_Zq RJ3 "SIOOBE_FORMATTER" "Ljava/util/function/BiFunction;" A U H
def st (E : vE) (A : Nat → Prop) (U : State) (H : Heap) : Prop := st1 "ROW_WEIGHTS" 7 sWf A U H ∧ st1 "COURSES" 9 sCf A U H ∧ st1 "BOX_BOUNDS" 6 sBf A U H ∧ stC A U H ∧ vk_S 17 sLen sByt E.2.2.1 E.2.2.2 A U H
theorem st1_to {n : String} {k : Nat} {f : Nat → Value} {A B : Nat → Prop} {s U : State} {H : Heap} {locs : List Loc} (h : st1 n k f A s s.heap) (hS : va_S A s.heap H locs) (hB : ∀ q, B q → A q) (hvm : s.vm.Alike U.vm) : st1 n k f B U H := by
  obtain ⟨t, h1, h2⟩ := h
  exact ⟨t, ((h1.kept hS.2.1).narrow hB).moved hvm, ((h2.kept hS.2.1).narrow hB).moved hvm⟩
theorem st_to {E : vE} {A B : Nat → Prop} {s U : State} {H : Heap} {locs : List Loc} (h : st E A s s.heap) (hS : va_S A s.heap H locs) (hB : ∀ q, B q → A q) (hvm : s.vm.Alike U.vm) : st E B U H := ⟨st1_to h.1 hS hB hvm, st1_to h.2.1 hS hB hvm, st1_to h.2.2.1 hS hB hvm, ⟨((h.2.2.2.1.1.kept hS.2.1).narrow hB).moved hvm, ((h.2.2.2.1.2.kept hS.2.1).narrow hB).moved hvm⟩, ((h.2.2.2.2.kept hS.2.1).narrow hB).moved hvm⟩
abbrev pcW (E : vE) (av : List Value) (sz : Nat) (cs : va_W) : Array Value → State → Prop := va_Pc av (fun U => U.heap.size = sz ∧ va_P E.1 vwCl cs U.heap ∧ kn E U ∧ va_D (fun _ => True) cs ∧ st E (va_A cs sz) U U.heap)
theorem nest_all : nestw.all (fun w => w.onTables) = true := by decide +kernel
theorem nest_same {u U : State} (h : u.vm = U.vm) (hn : nest u) : nest U := fun w hw => va_Nw.same (List.all_eq_true.mp nest_all w hw) h (hn w hw)
theorem nest_warm {s U : State} (hW : s.WarmedH U.vm) (h : nest s) : nest U := by
  intro w hw
  have h1 := h w hw
  simp only [nestw, List.mem_cons, List.not_mem_nil, or_false] at hw
  rcases hw with rfl | rfl | rfl | rfl | rfl | rfl | rfl | rfl | rfl | rfl | rfl | rfl | rfl | rfl | rfl | rfl | rfl | rfl | rfl | rfl | rfl | rfl | rfl <;> first | exact va_Nw.warmM hW h1 | exact va_Nw.warmF hW h1
theorem kn_calling {E : vE} {U : State} {g : JFrame} {mk : MethodId} {a : Array Value} (h : kn E U) : kn E (U.calling g mk a) := ⟨va_K.moved (u := U) (U := U.calling g mk a) (Vm.Alike.refl U.vm) h.1, nest_same (u := U) (U := U.calling g mk a) rfl h.2.1, va_AO.moved (u := U) (U := U.calling g mk a) (Vm.Alike.refl U.vm) h.2.2.1, fun i hi => vk_R.same rfl (h.2.2.2 i hi)⟩
theorem kn_warm {E : vE} {s U : State} (hW : s.WarmedH U.vm) (h : kn E s) : kn E U := ⟨va_K.moved hW.alike h.1, nest_warm hW h.2.1, va_AO.moved hW.alike h.2.2.1, fun i hi => vk_R.warm hW (h.2.2.2 i hi)⟩
theorem pcW_blind {E : vE} {av : List Value} {sz : Nat} {cs : va_W} : FrameBlind (pcW E av sz cs) := fun a U g mk q => by
  obtain ⟨q0, q1, qP, qK, qD, qT⟩ := q
  exact ⟨q0, q1, qP, kn_calling qK, qD, st_to (locs := []) qT va_S.rf (fun _ h => h) (Vm.Alike.refl U.vm)⟩
theorem pcW_pre {E : vE} {av : List Value} {cs : va_W} {s : State} {H : Heap} {A : Nat → Prop} {locs : List Loc} (hP : va_P E.1 vwCl cs H) (hkn : kn E s) (hD : va_D A cs) (hst : st E A s s.heap) (hS : va_S A s.heap H locs) (hF : ∀ q, va_A cs H.size q → A q) : ∀ U : State, U.heap = H → s.WarmedH U.vm → pcW E av H.size cs av.toArray U := fun U hU hW => ⟨rfl, by rw [hU], by rw [hU]; exact hP, kn_warm hW hkn, hD.weaken (fun _ _ _ _ => trivial), by rw [hU]; exact st_to hst hS hF hW.alike⟩
/-- an array class is one of its kind -/
theorem k_uniq {D : va_G} {tys : List (ClassId × FieldType)} {s : State} {cA cB : ClassId} {ty : FieldType} (hK : va_K D vwCl tys s) (hK1 : va_K D vwCl (tys ++ [(cA, ty)]) s) (i j : Nat) (hi : tys[i]? = some (cB, ty)) (hj : (tys ++ [(cA, ty)])[j]? = some (cA, ty)) (hne : ∀ C, ty ≠ .object C) : cA = cB := by
  have h1 := (hK.2 i _ hi).2
  have h2 := (hK1.2 j _ hj).2
  cases ty with
  | object C => exact absurd rfl (hne C)
  | _ =>
    simp only [va_RA] at h1 h2
    rw [h1] at h2
    exact (Option.some.inj h2).symm
theorem k_uniqO {D : va_G} {tys : List (ClassId × FieldType)} {s : State} {cA cB : ClassId} {C : String} (hK : va_K D vwCl tys s) (hK1 : va_K D vwCl (tys ++ [(cA, .object C)]) s) (i j : Nat) (hi : tys[i]? = some (cB, .object C)) (hj : (tys ++ [(cA, FieldType.object C)])[j]? = some (cA, .object C)) : cA = cB := by
  have h1 := (hK.2 i _ hi).2
  have h2 := (hK1.2 j _ hj).2
  obtain ⟨_, _, _, _, _, h1⟩ := h1
  obtain ⟨_, _, _, _, _, h2⟩ := h2
  rw [h1] at h2
  exact (Option.some.inj h2).symm
/-- numbers as answers -/
def bI (b : Bool) : Int32 := if b then 1 else 0
def inR (x lo hi : Int32) : Bool := decide (lo ≤ x) && decide (x ≤ hi)
theorem bz {x : Int32} {b : Bool} (h : x = bI b) (c : x = 0) : b = false := by
  cases b with
  | false => rfl
  | true => rw [c] at h; exact absurd h (by decide)
theorem bn {x : Int32} {b : Bool} (h : x = bI b) (c : ¬ x = 0) : b = true := by
  cases b with
  | true => rfl
  | false => exact absurd h c
theorem bI_z (b : Bool) : narrow .boolean (.int (bI b)) = .int (bI b) := by cases b <;> decide
theorem ii_lt (a b : Int32) : a < b ↔ a.toInt < b.toInt := Int32.lt_iff_toInt_lt
theorem ii_le (a b : Int32) : a ≤ b ↔ a.toInt ≤ b.toInt := Int32.le_iff_toInt_le
theorem ii_eq (a b : Int32) : a = b ↔ a.toInt = b.toInt := ⟨fun h => by rw [h], Int32.toInt_inj.mp⟩
theorem inR_t {x lo hi : Int32} : inR x lo hi = true ↔ lo ≤ x ∧ x ≤ hi := by simp [inR]
theorem inR_f {x lo hi : Int32} : inR x lo hi = false ↔ ¬ (lo ≤ x ∧ x ≤ hi) := by
  rw [← Bool.not_eq_true, inR_t]
theorem inR_nI {x : Int32} {hi : Int32} {n : Nat} (hn : hi.toInt = n) (h : inR x 0 hi = true) : ∃ j : Nat, j ≤ n ∧ x = nI j := by
  obtain ⟨h0, h1⟩ := inR_t.mp h
  exact nI_of2 hn (Int32.not_lt.mpr h0) h1
theorem inR_in {x hi : Int32} {n : Nat} (hn : hi.toInt + 1 = n) (h : inR x 0 hi = true) : vp_in x n := by
  obtain ⟨h0, h1⟩ := inR_t.mp h
  rw [vp_in_iff]
  have a := (ii_le _ _).mp h0
  have b := (ii_le _ _).mp h1
  simp at a
  omega
theorem in_lo {x lo hi : Int32} (c : x < lo) : (0 : Int32) = bI (inR x lo hi) := by
  have : inR x lo hi = false := inR_f.mpr (fun h => Int32.not_lt.mpr h.1 c)
  rw [this]; rfl
theorem in_hi {x lo hi : Int32} (c : hi < x) : (0 : Int32) = bI (inR x lo hi) := by
  have : inR x lo hi = false := inR_f.mpr (fun h => Int32.not_lt.mpr h.2 c)
  rw [this]; rfl
theorem in_ok {x lo hi : Int32} (c1 : ¬ x < lo) (c2 : ¬ hi < x) : (1 : Int32) = bI (inR x lo hi) := by
  have : inR x lo hi = true := inR_t.mpr ⟨Int32.not_lt.mp c1, Int32.not_lt.mp c2⟩
  rw [this]; rfl
theorem lt_le {n m : Int32} (h : m.toInt + 1 = n.toInt) : ∀ z : Int32, z < n ↔ z ≤ m := fun z => by
  rw [ii_lt, ii_le]; omega
theorem ixm {i j M : Nat} {c : Int32} (hc : c = nI M) : nI i * c + nI j = nI (i * M + j) := by rw [hc, pk_mul, nI_add]
theorem ixn {i j M : Nat} {c : Int32} (hc : c = nI M) : c * nI i + nI j = nI (M * i + j) := by rw [hc, pk_mul, nI_add]
theorem ixA {z w hz hw c : Int32} {a b M K : Nat} (h1 : inR z 0 hz = true) (ha : hz.toInt = a) (h2 : inR w 0 hw = true) (hb : hw.toInt = b) (hc : c = nI M) (hN : a * M + b < K) (hK : K < 2 ^ 31) : vp_in (z * c + w) K := by
  obtain ⟨i, hi, rfl⟩ := inR_nI ha h1
  obtain ⟨j, hj, rfl⟩ := inR_nI hb h2
  rw [ixm hc]
  have := Nat.mul_le_mul_right M hi
  exact vp_in_nI (by omega) hK
theorem ixB {z w hz hw c : Int32} {a b M K : Nat} (h1 : inR z 0 hz = true) (ha : hz.toInt = a) (h2 : inR w 0 hw = true) (hb : hw.toInt = b) (hc : c = nI M) (hN : M * a + b < K) (hK : K < 2 ^ 31) : vp_in (c * z + w) K := by
  obtain ⟨i, hi, rfl⟩ := inR_nI ha h1
  obtain ⟨j, hj, rfl⟩ := inR_nI hb h2
  rw [ixn hc]
  have := Nat.mul_le_mul_left M hi
  exact vp_in_nI (by omega) hK
theorem ixS {w lo hi : Int32} {a b K : Nat} (h : inR w lo hi = true) (ha : lo = nI a) (hb : hi.toInt = b) (hK : b < K + a) (hb2 : a ≤ b ∧ b < 2 ^ 31) (hK2 : K < 2 ^ 31) : vp_in (w - lo) K ∧ (w - lo).toNatClampNeg + a = w.toNatClampNeg := by
  obtain ⟨h0, h1⟩ := inR_t.mp h
  have a0 := (ii_le _ _).mp h0
  have a1 := (ii_le _ _).mp h1
  rw [ha] at a0
  rcases Nat.lt_or_ge a (2 ^ 31) with q | q
  · rw [nI_toInt q] at a0
    obtain ⟨j, hj, rfl⟩ := nI_of (x := w) (fun hc => by have := (ii_lt _ _).mp hc; simp at this; omega)
    rw [nI_toInt hj] at a0 a1
    rw [ha, pk_sub (by omega), nI_clamp (by omega), nI_clamp hj]
    exact ⟨vp_in_nI (by omega) hK2, by omega⟩
  · omega
/-- a place: column and row -/
def isPl (p : Int32) : Bool := decide (0 ≤ p) && (inR (p / 100) 0 29 && inR (p - p / 100 * 100) 0 19)
