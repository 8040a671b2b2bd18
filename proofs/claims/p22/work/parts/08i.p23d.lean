/-- what a crew does: a set, what it costs and by which row -/
def KL (D : DT) (n : Nat) (d6 d7 : Nat → Int32) (i q : Nat) (co : Int) (l : List Nat) : Prop := (q = 0 ∧ co = 0 ∧ l = []) ∨ (0 < q ∧ (¬ d6 i = -1) ∧ BsP D n (d6 i) (d7 i) q co l)
def Fq (D : DT) (n : Nat) (d6 d7 : Nat → Int32) (i q : Nat) : Prop := ∃ co l, KL D n d6 d7 i q co l
noncomputable def Cq (D : DT) (n : Nat) (d6 d7 : Nat → Int32) (i q : Nat) : Int := Classical.epsilon (fun co => ∃ l, KL D n d6 d7 i q co l)
section
variable {D : DT} {n : Nat} {d6 d7 : Nat → Int32} {i q : Nat} {co co' : Int} {l l' : List Nat}
theorem KL_uniq (hn : n ≤ 7) (h : KL D n d6 d7 i q co l) (h' : KL D n d6 d7 i q co' l') : co = co' ∧ l = l' := by
  rcases h with ⟨a, b, c⟩ | ⟨a, b, c⟩ <;> rcases h' with ⟨a', b', c'⟩ | ⟨a', b', c'⟩
  · exact ⟨b.trans b'.symm, c.trans c'.symm⟩
  · omega
  · omega
  · exact BsP_uniq hn c c'
theorem Cq_eq (hn : n ≤ 7) (h : KL D n d6 d7 i q co l) : Cq D n d6 d7 i q = co := by
  obtain ⟨l', h'⟩ : ∃ l', KL D n d6 d7 i q (Cq D n d6 d7 i q) l' := Classical.epsilon_spec (p := fun co => ∃ l, KL D n d6 d7 i q co l) ⟨co, l, h⟩
  exact (KL_uniq hn h' h).1
theorem Fq_0 : Fq D n d6 d7 i 0 := ⟨0, [], Or.inl ⟨rfl, rfl, rfl⟩⟩
theorem Cq_0 (hn : n ≤ 7) : Cq D n d6 d7 i 0 = 0 := Cq_eq hn (Or.inl ⟨rfl, rfl, rfl⟩)
theorem Fq_no (h : d6 i = -1) : ∀ q : Nat, 0 < q → ¬ Fq D n d6 d7 i q := fun q hq ⟨co, l, k⟩ => k.elim (fun e => by omega) (fun r => r.2.1 h)
theorem Fq_lt (hn : n ≤ 7) (h : Fq D n d6 d7 i q) : q < 2 ^ n := by
  obtain ⟨co, l, ⟨rfl, -⟩ | ⟨-, -, ⟨pt, da, hF⟩, -⟩⟩ := h
  · exact Nat.pow_pos (by decide)
  · exact (FeL_S hn l q pt da co hF).2.1
theorem Fq_bd (hn : n ≤ 7) (hok : okD D) (h8 : ∀ j : Nat, j < 100 → inR (D.2.2.2.2.2 j) (-1) 10000 = true) (h6 : inR (d6 i) (-1) 9 = true) (h : Fq D n d6 d7 i q) : 0 ≤ Cq D n d6 d7 i q ∧ Cq D n d6 d7 i q ≤ 70000 := by
  obtain ⟨co, l, hk⟩ := h
  rw [Cq_eq hn hk]
  rcases hk with ⟨-, rfl, -⟩ | ⟨-, hd, ⟨pt, da, hF⟩, -⟩
  · exact ⟨by decide, by decide⟩
  · have b := FeL_co hok h8 hn (m1_in h6 hd) l q pt da co hF
    have s := FeL_S hn l q pt da co hF
    have p7 := pc7_le q s.1
    have e := s.2.2.1
    omega
/-- the class's rows of costs and orders say what a told crew can do -/
theorem SrL_F (hn : n ≤ 7) (hd : ¬ d6 i = -1) {c1 c2 : Nat → Int32} (h : SrL D n (d6 i) (d7 i) i c1 c2) : ∀ q : Nat, 0 < q → q < 128 → ((¬ c1 (i * 128 + q) = -1) ↔ Fq D n d6 d7 i q) ∧ ((¬ c1 (i * 128 + q) = -1) → (c1 (i * 128 + q)).toInt = Cq D n d6 d7 i q) := by
  intro q h0 hq
  rcases h q h0 hq with ⟨a, b⟩ | ⟨a, l, b, -⟩
  · refine ⟨⟨fun k => absurd a k, fun ⟨co, l, k⟩ => ?_⟩, fun k => absurd a k⟩
    rcases k with ⟨e, -⟩ | ⟨-, -, ⟨pt, da, hF⟩, -⟩
    · omega
    · exact absurd hF (b l pt da co)
  · have k : KL D n d6 d7 i q (c1 (i * 128 + q)).toInt l := Or.inr ⟨h0, hd, b⟩
    have ne : ¬ c1 (i * 128 + q) = -1 := fun e => by
      rw [e] at a
      exact absurd a (by decide)
    exact ⟨⟨fun _ => ⟨_, l, k⟩, fun _ => ne⟩, fun _ => (Cq_eq hn k).symm⟩
theorem SrL_row (hn : n ≤ 7) {c1 c2 : Nat → Int32} (h : (¬ d6 i = -1) → SrL D n (d6 i) (d7 i) i c1 c2) (h0 : 0 < q) (hq : q < 128) (k : KL D n d6 d7 i q co l) : c2 (i * 128 + q) = nI (rowC l) := by
  rcases k with ⟨e, -⟩ | ⟨-, hd, hb⟩
  · omega
  · rcases h hd q h0 hq with ⟨-, b⟩ | ⟨-, l', b, c⟩
    · obtain ⟨⟨pt, da, hF⟩, -⟩ := hb
      exact absurd hF (b l pt da co)
    · rw [c, (BsP_uniq hn b hb).2]
end
/-- a giving of the deliveries as a number to the base of five, the first delivery highest -/
def hN (g : Nat → Nat) : Nat → Nat
  | 0 => 0
  | d + 1 => 5 * hN g d + g d
theorem hN_cg {g g' : Nat → Nat} : ∀ n : Nat, (∀ k : Nat, k < n → g k = g' k) → hN g n = hN g' n := by
  intro n
  induction n with
  | zero => intro _; rfl
  | succ n ih =>
    intro h
    show 5 * hN g n + g n = 5 * hN g' n + g' n
    rw [ih (fun k hk => h k (by omega)), h n (by omega)]
theorem hN_inj {g g' : Nat → Nat} : ∀ n : Nat, (∀ k : Nat, k < n → g k ≤ 4) → (∀ k : Nat, k < n → g' k ≤ 4) → hN g n = hN g' n → ∀ k : Nat, k < n → g k = g' k := by
  intro n
  induction n with
  | zero => intro _ _ _ k hk; exact absurd hk (Nat.not_lt_zero _)
  | succ n ih =>
    intro a b e k hk
    have e2 : 5 * hN g n + g n = 5 * hN g' n + g' n := e
    have a1 := a n (by omega)
    have b1 := b n (by omega)
    by_cases q : k = n
    · rw [q]; omega
    · exact ih (fun k hk => a k (by omega)) (fun k hk => b k (by omega)) (by omega) k (by omega)
theorem cnt_cg {g g' : Nat → Nat} : ∀ n : Nat, (∀ k : Nat, k < n → g k = g' k) → cnt g n = cnt g' n := by
  intro n
  induction n with
  | zero => intro _; rfl
  | succ n ih =>
    intro h
    show (if g n < 4 then cnt g n + 1 else cnt g n) = if g' n < 4 then cnt g' n + 1 else cnt g' n
    rw [ih (fun k hk => h k (by omega)), h n (by omega)]
theorem cnt_le (g : Nat → Nat) : ∀ n : Nat, cnt g n ≤ n := by
  intro n
  induction n with
  | zero => exact Nat.le_refl _
  | succ n ih =>
    show (if g n < 4 then cnt g n + 1 else cnt g n) ≤ n + 1
    by_cases q : g n < 4
    · rw [if_pos q]; omega
    · rw [if_neg q]; omega
theorem setOf_cg9 {g g' : Nat → Nat} {i m : Nat} (h : ∀ k : Nat, k < m → g k = g' k) : setOf g i m = setOf g' i m := Nat.eq_of_testBit_eq (fun b => by
  rw [setOf_bit, setOf_bit]
  have : (b < m ∧ g b = i) ↔ (b < m ∧ g' b = i) := ⟨fun q => ⟨q.1, (h b q.1) ▸ q.2⟩, fun q => ⟨q.1, (h b q.1).symm ▸ q.2⟩⟩
  simp only [this])
def OKg (F : Nat → Nat → Prop) (n : Nat) (g : Nat → Nat) : Prop := (∀ k : Nat, k < n → g k ≤ 4) ∧ ∀ i : Nat, i < 4 → F i (setOf g i n)
/-- g is no worse than g': more done, or as many and cheaper, or as cheap and the lesser row -/
def KeyLe (C : Nat → Nat → Int) (n : Nat) (g g' : Nat → Nat) : Prop := cnt g' n < cnt g n ∨ (cnt g' n = cnt g n ∧ (vsm C g n 4 < vsm C g' n 4 ∨ (vsm C g n 4 = vsm C g' n 4 ∧ hN g n ≤ hN g' n)))
def gI (x : Nat) : Int32 := if x = 4 then -1 else nI x
theorem KeyLe_eq {C : Nat → Nat → Int} {n : Nat} {g g' : Nat → Nat} (h : KeyLe C n g g') (h' : KeyLe C n g' g) (a : ∀ k : Nat, k < n → g k ≤ 4) (b : ∀ k : Nat, k < n → g' k ≤ 4) : ∀ k : Nat, k < n → g k = g' k := by
  refine hN_inj n a b ?_
  unfold KeyLe at h h'
  omega
def Rep (C : Nat → Nat → Int) (n : Nat) (bd bc : Int32) (bg : Nat → Int32) (g : Nat → Nat) : Prop := bd = nI (cnt g n) ∧ bc.toInt = vsm C g n 4 ∧ ∀ k : Nat, k < n → bg k = gI (g k)
/-- the best of all givings whose number is below M -/
def BG (F : Nat → Nat → Prop) (C : Nat → Nat → Int) (n M : Nat) (bd bc : Int32) (bg : Nat → Int32) : Prop :=
  (bd = -1 ∧ ∀ g, OKg F n g → ¬ hN g n < M) ∨ (∃ g0, OKg F n g0 ∧ hN g0 n < M ∧ Rep C n bd bc bg g0 ∧ ∀ g, OKg F n g → hN g n < M → KeyLe C n g0 g)
section
variable {F : Nat → Nat → Prop} {C : Nat → Nat → Int} {n : Nat} {bd bc bd2 bc2 : Int32} {bg bg2 : Nat → Int32} {gp : Nat → Nat}
theorem BG_start : BG F C n 0 (-1) bc bg := Or.inl ⟨rfl, fun g _ h => Nat.not_lt_zero _ h⟩
theorem hN_or {g : Nat → Nat} (a : ∀ k : Nat, k < n → g k ≤ 4) (b : ∀ k : Nat, k < n → gp k ≤ 4) (h : hN g n < hN gp n + 1) : hN g n < hN gp n ∨ ∀ k : Nat, k < n → g k = gp k := by
  rcases Nat.lt_or_ge (hN g n) (hN gp n) with q | q
  · exact Or.inl q
  · exact Or.inr (hN_inj n a b (by omega))
theorem BG_inf (hp : ∀ k : Nat, k < n → gp k ≤ 4) {c : Nat} (hc : c < 4) (hno : ¬ F c (setOf gp c n)) (h : BG F C n (hN gp n) bd bc bg) : BG F C n (hN gp n + 1) bd bc bg := by
  have key : ∀ g, OKg F n g → hN g n < hN gp n + 1 → hN g n < hN gp n := fun g hg hlt => (hN_or hg.1 hp hlt).resolve_right (fun e => hno (by rw [← setOf_cg9 e]; exact hg.2 c hc))
  rcases h with ⟨a, b⟩ | ⟨g0, a, b, c, d⟩
  · exact Or.inl ⟨a, fun g hg hlt => b g hg (key g hg hlt)⟩
  · exact Or.inr ⟨g0, a, by omega, c, fun g hg hlt => d g hg (key g hg hlt)⟩
theorem BG_old (hn : n ≤ 7) (hp : ∀ k : Nat, k < n → gp k ≤ 4) (hk : (cnt gp n : Int) < bd.toInt ∨ ((cnt gp n : Int) = bd.toInt ∧ bc.toInt ≤ vsm C gp n 4)) (h : BG F C n (hN gp n) bd bc bg) : BG F C n (hN gp n + 1) bd bc bg := by
  rcases h with ⟨a, b⟩ | ⟨g0, a, b, ⟨c1, c2, c3⟩, d⟩
  · rw [a, show (-1 : Int32).toInt = -1 by decide] at hk
    omega
  · refine Or.inr ⟨g0, a, by omega, ⟨c1, c2, c3⟩, fun g hg hlt => ?_⟩
    rcases hN_or hg.1 hp hlt with q | q
    · exact d g hg q
    · have l0 := cnt_le g0 n
      have e1 : bd.toInt = (cnt g0 n : Int) := by rw [c1, nI_toInt (by omega)]
      unfold KeyLe
      rw [cnt_cg n q, (vsm_cg (C := C) 4 (fun i _ => setOf_cg9 (i := i) q)).1, hN_cg n q]
      omega
theorem BG_new (hn : n ≤ 7) (hp : ∀ k : Nat, k < n → gp k ≤ 4) (hf : ∀ i : Nat, i < 4 → F i (setOf gp i n)) (hk : bd.toInt < (cnt gp n : Int) ∨ (bd.toInt = (cnt gp n : Int) ∧ vsm C gp n 4 < bc.toInt)) (h1 : bd2 = nI (cnt gp n)) (h2 : bc2.toInt = vsm C gp n 4) (h3 : ∀ k : Nat, k < n → bg2 k = gI (gp k)) (h : BG F C n (hN gp n) bd bc bg) : BG F C n (hN gp n + 1) bd2 bc2 bg2 := by
  refine Or.inr ⟨gp, ⟨hp, hf⟩, by omega, ⟨h1, h2, h3⟩, fun g hg hlt => ?_⟩
  rcases hN_or hg.1 hp hlt with q | q
  · rcases h with ⟨a, b⟩ | ⟨g0, a, b, ⟨c1, c2, c3⟩, d⟩
    · exact absurd q (b g hg)
    · have l0 := cnt_le g0 n
      have e1 : bd.toInt = (cnt g0 n : Int) := by rw [c1, nI_toInt (by omega)]
      have k := d g hg q
      unfold KeyLe at k ⊢
      omega
  · unfold KeyLe
    rw [cnt_cg n q, (vsm_cg (C := C) 4 (fun i _ => setOf_cg9 (i := i) q)).1, hN_cg n q]
    omega
/-- one delivery more is given to c -/
def pg (gp : Nat → Nat) (d c : Nat) : Nat → Nat := fun x => if x = d then c else gp x
theorem pg_lt {d c k : Nat} (hk : k < d) : pg gp d c k = gp k := if_neg (by omega)
theorem pg_at {d c : Nat} : pg gp d c d = c := if_pos rfl
theorem hN_pg (gp : Nat → Nat) (d c : Nat) : hN (pg gp d c) (d + 1) = 5 * hN gp d + c := by
  show 5 * hN (pg gp d c) d + pg gp d c d = 5 * hN gp d + c
  rw [pg_at, hN_cg d (fun k hk => pg_lt hk)]
theorem pw5 {d : Nat} (hd : d + 1 ≤ n) : 5 ^ (n - d) = 5 * 5 ^ (n - (d + 1)) := by
  rw [show n - d = (n - (d + 1)) + 1 by omega, Nat.pow_succ, Nat.mul_comm]
theorem M_0 {d : Nat} (hd : d + 1 ≤ n) : hN gp d * 5 ^ (n - d) = hN (pg gp d 0) (d + 1) * 5 ^ (n - (d + 1)) := by
  have e : 5 * hN gp d + 0 = 5 * hN gp d := rfl
  rw [hN_pg, e, pw5 hd, Nat.mul_left_comm, ← Nat.mul_assoc]
theorem M_s {d c : Nat} : (hN (pg gp d c) (d + 1) + 1) * 5 ^ (n - (d + 1)) = hN (pg gp d (c + 1)) (d + 1) * 5 ^ (n - (d + 1)) := by
  rw [hN_pg, hN_pg, Nat.add_assoc]
theorem M_5 {d : Nat} (hd : d + 1 ≤ n) : (hN (pg gp d 4) (d + 1) + 1) * 5 ^ (n - (d + 1)) = (hN gp d + 1) * 5 ^ (n - d) := by
  rw [hN_pg, pw5 hd, show 5 * hN gp d + 4 + 1 = 5 * (hN gp d + 1) by omega, Nat.mul_assoc, Nat.mul_left_comm]
theorem pg_le {d c : Nat} (hp : ∀ k : Nat, k < d → gp k ≤ 4) (hc : c ≤ 4) : ∀ k : Nat, k < d + 1 → pg gp d c k ≤ 4 := by
  intro k hk
  by_cases q : k = d
  · rw [q, pg_at]; exact hc
  · rw [pg_lt (by omega)]; exact hp k (by omega)
theorem gv_put {d c : Nat} {cur gv f : Nat → Int32} {x : Int32} (hcur : ∀ k : Nat, k < d → cur k = gv k) (hgv : ∀ k : Nat, k < d → gv k = gI (gp k)) (e : f = upd cur d x) (hx : x = gI c) : ∀ k : Nat, k < d + 1 → f k = gI (pg gp d c k) := by
  intro k hk
  rw [e]
  by_cases q : k = d
  · rw [q, pk_us, pg_at, hx]
  · rw [pk_un q, pg_lt (by omega), hcur k (by omega), hgv k (by omega)]
theorem gv_cur {d : Nat} {cur gv f u : Nat → Int32} {x : Int32} (hcur : ∀ k : Nat, k < d → cur k = gv k) (e : f = upd cur d x) (hu : ∀ k : Nat, k < d + 1 → u k = f k) : ∀ k : Nat, k < d → u k = gv k := by
  intro k hk
  rw [hu k (by omega), e, pk_un (by omega)]
  exact hcur k hk
end
/-- the plan: how many, the sum of flights, the crews, the days -/
def plL (D : DT) (pr : Int32) : List Nat → Int32
  | [] => pr
  | k :: _ => D.2.1 k
def dyL (D : DT) (pr dr : Int32) : List Nat → Int32
  | [] => dr
  | k :: l => stD D k (plL D pr l) (dyL D pr dr l) + D.2.2.1 k
def Rn (D : DT) (pr dr : Int32) (f : Nat → Int32) : List Nat → Nat → Int32
  | [] => f
  | k :: l => upd (Rn D pr dr f l) k (stD D k (plL D pr l) (dyL D pr dr l))
def dayF (D : DT) (d6 d7 : Nat → Int32) (ls : Nat → List Nat) : Nat → Nat → Int32
  | 0 => fun _ => -1
  | c + 1 => Rn D (d6 c) (d7 c) (dayF D d6 d7 ls c) (ls c)
theorem FeL_run {D : DT} {n : Nat} {pr dr : Int32} : ∀ (l : List Nat) (S : Nat) (pt da : Int32) (co : Int), FeL D n pr dr l S pt da co → pt = plL D pr l ∧ da = dyL D pr dr l := by
  intro l
  induction l with
  | nil =>
    intro S pt da co h
    exact ⟨h.2.1, h.2.2.1⟩
  | cons k l ih =>
    intro S pt da co h
    obtain ⟨S0, p0, t0, c0, h0, hk, hb, hs, -, rfl, rfl, -⟩ := h
    obtain ⟨rfl, rfl⟩ := ih S0 p0 t0 c0 h0
    exact ⟨rfl, rfl⟩
/-- each delivery of the row can be begun -/
def okR (D : DT) (n : Nat) (pr dr : Int32) : List Nat → Prop
  | [] => True
  | k :: l => k < n ∧ (¬ stD D k (plL D pr l) (dyL D pr dr l) = -1) ∧ okR D n pr dr l
theorem FeL_okR {D : DT} {n : Nat} {pr dr : Int32} : ∀ (l : List Nat) (S : Nat) (pt da : Int32) (co : Int), FeL D n pr dr l S pt da co → okR D n pr dr l := by
  intro l
  induction l with
  | nil => intro S pt da co h; exact trivial
  | cons k l ih =>
    intro S pt da co h
    obtain ⟨S0, p0, t0, c0, h0, hk, hb, hs, -, -, -, -⟩ := h
    obtain ⟨rfl, rfl⟩ := FeL_run l S0 p0 t0 c0 h0
    exact ⟨hk, hs, ih S0 _ _ c0 h0⟩
theorem okR_drop {D : DT} {n : Nat} {pr dr : Int32} : ∀ (j : Nat) (l : List Nat), okR D n pr dr l → okR D n pr dr (l.drop j) := by
  intro j
  induction j with
  | zero => intro l h; exact h
  | succ j ih =>
    intro l h
    cases l with
    | nil => exact trivial
    | cons k l => exact ih l h.2.2
theorem Rn_cg {D : DT} {pr dr : Int32} {f f' : Nat → Int32} {n : Nat} (h : ∀ k : Nat, k < n → f k = f' k) : ∀ (l : List Nat) (k : Nat), k < n → Rn D pr dr f l k = Rn D pr dr f' l k := by
  intro l
  induction l with
  | nil => intro k hk; exact h k hk
  | cons x l ih =>
    intro k hk
    show upd (Rn D pr dr f l) x _ k = upd (Rn D pr dr f' l) x _ k
    by_cases q : k = x
    · rw [q, pk_us, pk_us]
    · rw [pk_un q, pk_un q]; exact ih k hk
/-- the class's plan and the reference's are this one -/
def PlP (D : DT) (n : Nat) (d6 d7 : Nat → Int32) (bd bc : Int32) (bg dy : Nat → Int32) : Prop := ∃ g, OKg (Fq D n d6 d7) n g ∧ (∀ g', OKg (Fq D n d6 d7) n g' → KeyLe (Cq D n d6 d7) n g g') ∧ Rep (Cq D n d6 d7) n bd bc bg g ∧ ∃ ls : Nat → List Nat, (∀ c : Nat, c < 4 → ∃ co, KL D n d6 d7 c (setOf g c n) co (ls c)) ∧ ∀ k : Nat, k < n → dy k = dayF D d6 d7 ls 4 k
theorem dayF_cg {D : DT} {d6 d7 : Nat → Int32} {ls ls' : Nat → List Nat} : ∀ c : Nat, (∀ i : Nat, i < c → ls i = ls' i) → dayF D d6 d7 ls c = dayF D d6 d7 ls' c := by
  intro c
  induction c with
  | zero => intro _; rfl
  | succ c ih =>
    intro h
    show Rn D (d6 c) (d7 c) (dayF D d6 d7 ls c) (ls c) = Rn D (d6 c) (d7 c) (dayF D d6 d7 ls' c) (ls' c)
    rw [ih (fun i hi => h i (by omega)), h c (by omega)]
theorem PlP_eq {D : DT} {n : Nat} (hn : n ≤ 7) {d6 d7 : Nat → Int32} {bd bc bd' bc' : Int32} {bg dy bg' dy' : Nat → Int32} (h : PlP D n d6 d7 bd bc bg dy) (h' : PlP D n d6 d7 bd' bc' bg' dy') : bd = bd' ∧ bc = bc' ∧ ∀ k : Nat, k < n → bg k = bg' k ∧ dy k = dy' k := by
  obtain ⟨g, a1, a2, ⟨r1, r2, r3⟩, ls, a4, a5⟩ := h
  obtain ⟨g', b1, b2, ⟨s1, s2, s3⟩, ls', b4, b5⟩ := h'
  have e := KeyLe_eq (a2 g' b1) (b2 g a1) a1.1 b1.1
  have el : ∀ c : Nat, c < 4 → ls c = ls' c := fun c hc => by
    obtain ⟨co, k⟩ := a4 c hc
    obtain ⟨co', k'⟩ := b4 c hc
    rw [← setOf_cg9 e] at k'
    exact (KL_uniq hn k k').2
  refine ⟨by rw [r1, s1, cnt_cg n e], (ii_eq _ _).mpr (by rw [r2, s2, (vsm_cg (C := Cq D n d6 d7) 4 (fun i _ => setOf_cg9 (i := i) e)).1]), fun k hk => ⟨by rw [r3 k hk, s3 k hk, e k hk], by rw [a5 k hk, b5 k hk, dayF_cg 4 el]⟩⟩
/-- rows for all four crews -/
theorem ls_of {D : DT} {n : Nat} {d6 d7 : Nat → Int32} {g : Nat → Nat} (h : OKg (Fq D n d6 d7) n g) : ∃ ls : Nat → List Nat, ∀ c : Nat, c < 4 → ∃ co, KL D n d6 d7 c (setOf g c n) co (ls c) := by
  obtain ⟨c0, l0, k0⟩ := h.2 0 (by decide)
  obtain ⟨c1, l1, k1⟩ := h.2 1 (by decide)
  obtain ⟨c2, l2, k2⟩ := h.2 2 (by decide)
  obtain ⟨c3, l3, k3⟩ := h.2 3 (by decide)
  refine ⟨fun c => if c = 0 then l0 else if c = 1 then l1 else if c = 2 then l2 else l3, fun c hc => ?_⟩
  rcases (show c = 0 ∨ c = 1 ∨ c = 2 ∨ c = 3 by omega) with rfl | rfl | rfl | rfl
  · exact ⟨c0, k0⟩
  · exact ⟨c1, k1⟩
  · exact ⟨c2, k2⟩
  · exact ⟨c3, k3⟩
/-- the best of all givings is the plan's -/
theorem BG_best {F : Nat → Nat → Prop} {C : Nat → Nat → Int} {n : Nat} (hF0 : ∀ i : Nat, F i 0) {bd bc : Int32} {bg : Nat → Int32} {M : Nat} (hM : ∀ g : Nat → Nat, (∀ k : Nat, k < n → g k ≤ 4) → hN g n < M) (h : BG F C n M bd bc bg) : ∃ g, OKg F n g ∧ (∀ g', OKg F n g' → KeyLe C n g g') ∧ Rep C n bd bc bg g := by
  rcases h with ⟨-, b⟩ | ⟨g0, a, -, c, d⟩
  · have z : ∀ i : Nat, i < 4 → setOf (fun _ => 4) i n = 0 := fun i hi => Nat.eq_of_testBit_eq (fun d => by
      rw [setOf_bit, Nat.zero_testBit]
      exact decide_eq_false (fun q => by omega))
    exact absurd (hM (fun _ => 4) (fun _ _ => Nat.le_refl _)) (b (fun _ => 4) ⟨fun _ _ => Nat.le_refl _, fun i hi => by rw [z i hi]; exact hF0 i⟩)
  · exact ⟨g0, a, fun g' hg => d g' hg (hM g' hg.1), c⟩
theorem hN_lt {g : Nat → Nat} : ∀ n : Nat, (∀ k : Nat, k < n → g k ≤ 4) → hN g n < 5 ^ n := by
  intro n
  induction n with
  | zero =>
    intro _
    show 0 < 5 ^ 0
    decide
  | succ n ih =>
    intro h
    have a := ih (fun k hk => h k (by omega))
    have b := h n (by omega)
    show 5 * hN g n + g n < 5 ^ (n + 1)
    rw [Nat.pow_succ]
    omega
