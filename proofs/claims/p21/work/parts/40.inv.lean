def pl6 (bs : Nat → va_W) : va_W := bs 0 ++ (bs 1 ++ (bs 2 ++ (bs 3 ++ (bs 4 ++ bs 5))))
/-- the twelve cells of one boat -/
def IsBoat (E : vE) (o_ : Nat) (fs_ : Nat → Int32) (B9 : va_W) : Prop := ∀ Q9 : Prop, (∀ (sp pa ru t1 t2 t3 t4 co bx tr wy bm_ ps : Nat) (lt sq lq mq lw wl_ sta hp fd pe at_ go tu wa ce wt un fu dr : Int32) (fp u1 u2 u3 u4 fxb fy : Nat → Int32), bm_ ≤ 12 → ps ≤ 8 → B9 = [(o_, .inr (0, [.ref sp, .ref pa, .int lt, .ref ru, .ref co, .ref tr])), (sp, .inl (E.2.1 0, 25, .inl fs_)), (pa, .inl (E.2.1 0, 4, .inl fp)), (ru, .inr (7, [.ref t1, .ref t2, .ref t3, .ref t4, .int sq])), (t1, .inl (E.2.1 0, 12, .inl u1)), (t2, .inl (E.2.1 1, 12, .inl u2)), (t3, .inl (E.2.1 0, 12, .inl u3)), (t4, .inl (E.2.1 0, 12, .inl u4)), (co, .inr (1, [.ref bx, .int (nI bm_), .int lq, .int mq, .int lw])), (bx, .inl (E.2.1 0, 72, .inl fxb)), (tr, .inr (4, [.ref wy, .int wl_, .int (nI ps), .int sta, .int hp, .int fd, .int pe, .int at_, .int go, .int tu, .int wa, .int ce, .int wt, .int un, .int fu, .int dr])), (wy, .inl (E.2.1 0, 8, .inl fy))] → Q9) → Q9
/-- what holds between two calls -/
def Inv (E : vE) (A : Nat → Prop) (x0 h1 : Nat) (H : Heap) : Prop := ∀ Q9 : Prop, (∀ (tp rd se ba of pl sr sc by_ tk wi po g1 g2 g3 g4 g5 g6 g7 g8 k1 k2 k3 k4 e1 e2 e3 e4 s1 s2 s3 s4 bx2 ln on bq lm wk9 : Nat) (wk fk fq kd sa nu be md dn fsu sz_ lc mf li i_size i_sort i_what i_at i_end i_worth i_faultKind i_faultPlace i_got i_isPlanned i_bestDone i_bestCost : Int32) (f fw fo_ d1 d2 d3 d4 d5 d6 d7 d8 c1 c2 c3 c4 f3 f4 r1 r2 r3 r4 fx a_tape a_rules a_ruleMany a_boxes a_boxMany a_minCrew a_maxForce a_windTo a_windForce a_ports a_speeds a_litres a_lasts a_begun a_state a_home a_firstDay a_crewMany a_way a_wayAt a_wayEnd a_watches a_here a_gone a_turned a_cells a_waited a_bare a_dry a_firstBare a_dFrom a_dTo a_dDays a_dFirst a_dLast a_crewPort a_crewDay a_flights a_least a_order a_given a_bestGiven a_sets a_beginsOn : Nat → Int32) (fb : Nat → Option Nat) (fj : Nat → Int64) (q ob : Nat → Nat) (bs : Nat → va_W) (sp9 : Nat → Nat → Int32), (ln ≤ 800) → (on ≤ 7) → (bq ≤ 12) → (lm ≤ 800) → (wk9 ≤ 2000) → (∀ k, k < 7 → inR (d1 k) 0 9 = true) → (∀ j : Nat, j < 6 → fb j = some (ob j)) → (∀ k : Nat, k < 6 → isPl (a_here k) = true) → (∀ k : Nat, k < 6 → isPl (a_home k) = true) → (∀ k : Nat, k < 48 → isPl (a_way k) = true) → (∀ k : Nat, k < 10 → isPl (a_ports k) = true) → (∀ k : Nat, k < 288 → inR (a_windTo k) 0 7 = true) → (∀ k : Nat, k < 288 → inR (a_windForce k) 0 9 = true) → (∀ k : Nat, k < 7 → inR (a_ruleMany k) 0 12 = true) → (∀ k : Nat, k < 7 → inR (a_boxMany k) 0 12 = true) → (∀ k : Nat, k < 6 → inR (a_wayAt k) 0 8 = true) → (∀ k : Nat, k < 6 → inR (a_wayEnd k) 0 8 = true) → (∀ k : Nat, k < 6 → inR (a_watches k) 0 (nI wk9) = true) → (∀ k : Nat, k < 6 → inR (a_firstDay k) 0 499 = true) → (∀ k : Nat, k < 7 → inR (a_dFrom k) 0 9 = true) → (∀ k : Nat, k < 7 → inR (a_dTo k) 0 9 = true) → (∀ k : Nat, k < 4 → inR (a_crewPort k) (-1) 9 = true) → (∀ k : Nat, k < 512 → digOK (a_order k)) → (∀ k : Nat, k < 4 → inR (a_sets k) 0 127 = true) → (∀ k : Nat, k < 288 → fw k = 10 * a_windTo k + a_windForce k) → (∀ k : Nat, k < 10 → fo_ k = a_ports k) → (∀ k : Nat, k < 100 → d8 k = a_flights k) → (∀ j : Nat, j < 6 → ∀ k : Nat, k < 25 → sp9 j k = a_speeds (25 * j + k)) → (∀ j : Nat, j < 6 → IsBoat E (ob j) (sp9 j) (bs j)) → va_P E.1 vwCl (((x0, .inr (11, [.ref tp, .ref rd, .ref se, .ref ba, .ref of, .ref pl, .ref sr, .ref sc, .int wk])) :: (tp, .inr (9, [.ref by_, .int (nI ln)])) :: (by_, .inl (E.2.1 0, 800, .inl f)) :: (rd, .inr (6, [.ref tk, .int fk, .int fq])) :: (tk, .inr (10, [.ref tp, .int kd, .int sa, .int nu, .int be])) :: (se, .inr (8, [.ref wi, .ref po])) :: (wi, .inl (E.2.1 0, 288, .inl fw)) :: (po, .inl (E.2.1 0, 10, .inl fo_)) :: (ba, .inl (E.2.1 4, 6, .inr (.inr (.inr (.inr fb))))) :: (of, .inr (2, [.ref g1, .ref g2, .ref g3, .ref g4, .ref g5, .int (nI on), .ref g6, .ref g7, .ref g8])) :: (g1, .inl (E.2.1 0, 7, .inl d1)) :: (g2, .inl (E.2.1 0, 7, .inl d2)) :: (g3, .inl (E.2.1 0, 7, .inl d3)) :: (g4, .inl (E.2.1 0, 7, .inl d4)) :: (g5, .inl (E.2.1 0, 7, .inl d5)) :: (g6, .inl (E.2.1 0, 4, .inl d6)) :: (g7, .inl (E.2.1 0, 4, .inl d7)) :: (g8, .inl (E.2.1 0, 100, .inl d8)) :: (pl, .inr (5, [.ref of, .ref k1, .ref k2, .ref k3, .ref k4, .int md, .int dn, .int fsu])) :: (k1, .inr (3, [.ref of, .ref e1, .ref e2, .ref e3, .ref e4])) :: (e1, .inl (E.2.1 0, 512, .inl c1)) :: (e2, .inl (E.2.1 0, 512, .inl c2)) :: (e3, .inl (E.2.1 0, 896, .inl c3)) :: (e4, .inl (E.2.1 0, 896, .inl c4)) :: (k2, .inl (E.2.1 2, 128, .inr (.inl fj))) :: (k3, .inl (E.2.1 0, 7, .inl f3)) :: (k4, .inl (E.2.1 0, 7, .inl f4)) :: (sr, .inr (7, [.ref s1, .ref s2, .ref s3, .ref s4, .int sz_])) :: (s1, .inl (E.2.1 0, 12, .inl r1)) :: (s2, .inl (E.2.1 1, 12, .inl r2)) :: (s3, .inl (E.2.1 0, 12, .inl r3)) :: (s4, .inl (E.2.1 0, 12, .inl r4)) :: (sc, .inr (1, [.ref bx2, .int (nI bq), .int lc, .int mf, .int li])) :: (bx2, .inl (E.2.1 0, 72, .inl fx)) :: (h1, .inr (12, mG q (nI lm) i_size i_sort i_what i_at i_end i_worth i_faultKind i_faultPlace i_got (nI wk9) (nI on) i_isPlanned i_bestDone i_bestCost)) :: (q 0, .inl (E.2.1 3, 800, .inl a_tape)) :: (q 10, .inl (E.2.1 0, 336, .inl a_rules)) :: (q 11, .inl (E.2.1 0, 7, .inl a_ruleMany)) :: (q 12, .inl (E.2.1 0, 504, .inl a_boxes)) :: (q 13, .inl (E.2.1 0, 7, .inl a_boxMany)) :: (q 14, .inl (E.2.1 0, 7, .inl a_minCrew)) :: (q 15, .inl (E.2.1 0, 7, .inl a_maxForce)) :: (q 17, .inl (E.2.1 0, 288, .inl a_windTo)) :: (q 18, .inl (E.2.1 0, 288, .inl a_windForce)) :: (q 19, .inl (E.2.1 0, 10, .inl a_ports)) :: (q 20, .inl (E.2.1 0, 150, .inl a_speeds)) :: (q 21, .inl (E.2.1 0, 6, .inl a_litres)) :: (q 22, .inl (E.2.1 0, 24, .inl a_lasts)) :: (q 24, .inl (E.2.1 1, 6, .inl a_begun)) :: (q 25, .inl (E.2.1 0, 6, .inl a_state)) :: (q 26, .inl (E.2.1 0, 6, .inl a_home)) :: (q 27, .inl (E.2.1 0, 6, .inl a_firstDay)) :: (q 28, .inl (E.2.1 0, 6, .inl a_crewMany)) :: (q 29, .inl (E.2.1 0, 48, .inl a_way)) :: (q 30, .inl (E.2.1 0, 6, .inl a_wayAt)) :: (q 31, .inl (E.2.1 0, 6, .inl a_wayEnd)) :: (q 32, .inl (E.2.1 0, 6, .inl a_watches)) :: (q 33, .inl (E.2.1 0, 6, .inl a_here)) :: (q 34, .inl (E.2.1 0, 6, .inl a_gone)) :: (q 35, .inl (E.2.1 1, 6, .inl a_turned)) :: (q 36, .inl (E.2.1 0, 6, .inl a_cells)) :: (q 37, .inl (E.2.1 0, 6, .inl a_waited)) :: (q 38, .inl (E.2.1 0, 6, .inl a_bare)) :: (q 39, .inl (E.2.1 0, 6, .inl a_dry)) :: (q 40, .inl (E.2.1 0, 6, .inl a_firstBare)) :: (q 42, .inl (E.2.1 0, 7, .inl a_dFrom)) :: (q 43, .inl (E.2.1 0, 7, .inl a_dTo)) :: (q 44, .inl (E.2.1 0, 7, .inl a_dDays)) :: (q 45, .inl (E.2.1 0, 7, .inl a_dFirst)) :: (q 46, .inl (E.2.1 0, 7, .inl a_dLast)) :: (q 47, .inl (E.2.1 0, 4, .inl a_crewPort)) :: (q 48, .inl (E.2.1 0, 4, .inl a_crewDay)) :: (q 49, .inl (E.2.1 0, 100, .inl a_flights)) :: (q 51, .inl (E.2.1 0, 512, .inl a_least)) :: (q 52, .inl (E.2.1 0, 512, .inl a_order)) :: (q 53, .inl (E.2.1 0, 7, .inl a_given)) :: (q 54, .inl (E.2.1 0, 7, .inl a_bestGiven)) :: (q 55, .inl (E.2.1 0, 4, .inl a_sets)) :: (q 56, .inl (E.2.1 0, 7, .inl a_beginsOn)) :: []) ++ pl6 bs) H → va_D A (((x0, .inr (11, [.ref tp, .ref rd, .ref se, .ref ba, .ref of, .ref pl, .ref sr, .ref sc, .int wk])) :: (tp, .inr (9, [.ref by_, .int (nI ln)])) :: (by_, .inl (E.2.1 0, 800, .inl f)) :: (rd, .inr (6, [.ref tk, .int fk, .int fq])) :: (tk, .inr (10, [.ref tp, .int kd, .int sa, .int nu, .int be])) :: (se, .inr (8, [.ref wi, .ref po])) :: (wi, .inl (E.2.1 0, 288, .inl fw)) :: (po, .inl (E.2.1 0, 10, .inl fo_)) :: (ba, .inl (E.2.1 4, 6, .inr (.inr (.inr (.inr fb))))) :: (of, .inr (2, [.ref g1, .ref g2, .ref g3, .ref g4, .ref g5, .int (nI on), .ref g6, .ref g7, .ref g8])) :: (g1, .inl (E.2.1 0, 7, .inl d1)) :: (g2, .inl (E.2.1 0, 7, .inl d2)) :: (g3, .inl (E.2.1 0, 7, .inl d3)) :: (g4, .inl (E.2.1 0, 7, .inl d4)) :: (g5, .inl (E.2.1 0, 7, .inl d5)) :: (g6, .inl (E.2.1 0, 4, .inl d6)) :: (g7, .inl (E.2.1 0, 4, .inl d7)) :: (g8, .inl (E.2.1 0, 100, .inl d8)) :: (pl, .inr (5, [.ref of, .ref k1, .ref k2, .ref k3, .ref k4, .int md, .int dn, .int fsu])) :: (k1, .inr (3, [.ref of, .ref e1, .ref e2, .ref e3, .ref e4])) :: (e1, .inl (E.2.1 0, 512, .inl c1)) :: (e2, .inl (E.2.1 0, 512, .inl c2)) :: (e3, .inl (E.2.1 0, 896, .inl c3)) :: (e4, .inl (E.2.1 0, 896, .inl c4)) :: (k2, .inl (E.2.1 2, 128, .inr (.inl fj))) :: (k3, .inl (E.2.1 0, 7, .inl f3)) :: (k4, .inl (E.2.1 0, 7, .inl f4)) :: (sr, .inr (7, [.ref s1, .ref s2, .ref s3, .ref s4, .int sz_])) :: (s1, .inl (E.2.1 0, 12, .inl r1)) :: (s2, .inl (E.2.1 1, 12, .inl r2)) :: (s3, .inl (E.2.1 0, 12, .inl r3)) :: (s4, .inl (E.2.1 0, 12, .inl r4)) :: (sc, .inr (1, [.ref bx2, .int (nI bq), .int lc, .int mf, .int li])) :: (bx2, .inl (E.2.1 0, 72, .inl fx)) :: (h1, .inr (12, mG q (nI lm) i_size i_sort i_what i_at i_end i_worth i_faultKind i_faultPlace i_got (nI wk9) (nI on) i_isPlanned i_bestDone i_bestCost)) :: (q 0, .inl (E.2.1 3, 800, .inl a_tape)) :: (q 10, .inl (E.2.1 0, 336, .inl a_rules)) :: (q 11, .inl (E.2.1 0, 7, .inl a_ruleMany)) :: (q 12, .inl (E.2.1 0, 504, .inl a_boxes)) :: (q 13, .inl (E.2.1 0, 7, .inl a_boxMany)) :: (q 14, .inl (E.2.1 0, 7, .inl a_minCrew)) :: (q 15, .inl (E.2.1 0, 7, .inl a_maxForce)) :: (q 17, .inl (E.2.1 0, 288, .inl a_windTo)) :: (q 18, .inl (E.2.1 0, 288, .inl a_windForce)) :: (q 19, .inl (E.2.1 0, 10, .inl a_ports)) :: (q 20, .inl (E.2.1 0, 150, .inl a_speeds)) :: (q 21, .inl (E.2.1 0, 6, .inl a_litres)) :: (q 22, .inl (E.2.1 0, 24, .inl a_lasts)) :: (q 24, .inl (E.2.1 1, 6, .inl a_begun)) :: (q 25, .inl (E.2.1 0, 6, .inl a_state)) :: (q 26, .inl (E.2.1 0, 6, .inl a_home)) :: (q 27, .inl (E.2.1 0, 6, .inl a_firstDay)) :: (q 28, .inl (E.2.1 0, 6, .inl a_crewMany)) :: (q 29, .inl (E.2.1 0, 48, .inl a_way)) :: (q 30, .inl (E.2.1 0, 6, .inl a_wayAt)) :: (q 31, .inl (E.2.1 0, 6, .inl a_wayEnd)) :: (q 32, .inl (E.2.1 0, 6, .inl a_watches)) :: (q 33, .inl (E.2.1 0, 6, .inl a_here)) :: (q 34, .inl (E.2.1 0, 6, .inl a_gone)) :: (q 35, .inl (E.2.1 1, 6, .inl a_turned)) :: (q 36, .inl (E.2.1 0, 6, .inl a_cells)) :: (q 37, .inl (E.2.1 0, 6, .inl a_waited)) :: (q 38, .inl (E.2.1 0, 6, .inl a_bare)) :: (q 39, .inl (E.2.1 0, 6, .inl a_dry)) :: (q 40, .inl (E.2.1 0, 6, .inl a_firstBare)) :: (q 42, .inl (E.2.1 0, 7, .inl a_dFrom)) :: (q 43, .inl (E.2.1 0, 7, .inl a_dTo)) :: (q 44, .inl (E.2.1 0, 7, .inl a_dDays)) :: (q 45, .inl (E.2.1 0, 7, .inl a_dFirst)) :: (q 46, .inl (E.2.1 0, 7, .inl a_dLast)) :: (q 47, .inl (E.2.1 0, 4, .inl a_crewPort)) :: (q 48, .inl (E.2.1 0, 4, .inl a_crewDay)) :: (q 49, .inl (E.2.1 0, 100, .inl a_flights)) :: (q 51, .inl (E.2.1 0, 512, .inl a_least)) :: (q 52, .inl (E.2.1 0, 512, .inl a_order)) :: (q 53, .inl (E.2.1 0, 7, .inl a_given)) :: (q 54, .inl (E.2.1 0, 7, .inl a_bestGiven)) :: (q 55, .inl (E.2.1 0, 4, .inl a_sets)) :: (q 56, .inl (E.2.1 0, 7, .inl a_beginsOn)) :: []) ++ pl6 bs) → Q9) → Q9
theorem swp_P {D : va_G} {cl : List vw_C} {X B C : va_W} {H : Heap} (h : va_P D cl (X ++ (B ++ C)) H) : va_P D cl ((X ++ C) ++ B) H := va_P.swap (a := X) (b := B) (c := C) (by rw [List.append_assoc]; exact h)
theorem swp_D {A : Nat → Prop} {X B C : va_W} (h : va_D A (X ++ (B ++ C))) : va_D A ((X ++ C) ++ B) := va_D.swap (a := X) (b := B) (c := C) (by rw [List.append_assoc]; exact h)
theorem pl_open (bs : Nat → va_W) {j : Nat} (hj : j < 6) : ∃ R : va_W, (∀ (X : va_W) (D : va_G) (cl : List vw_C) (H : Heap), va_P D cl (X ++ pl6 bs) H → va_P D cl ((X ++ bs j) ++ R) H) ∧ (∀ (X : va_W) (A : Nat → Prop), va_D A (X ++ pl6 bs) → va_D A ((X ++ bs j) ++ R)) ∧ (∀ (X B : va_W) (D : va_G) (cl : List vw_C) (H : Heap), va_P D cl ((X ++ B) ++ R) H → va_P D cl (X ++ pl6 (va_up bs j B)) H) ∧ (∀ (X B : va_W) (A : Nat → Prop), va_D A ((X ++ B) ++ R) → va_D A (X ++ pl6 (va_up bs j B))) := by
  rcases (show j = 0 ∨ j = 1 ∨ j = 2 ∨ j = 3 ∨ j = 4 ∨ j = 5 by omega) with rfl | rfl | rfl | rfl | rfl | rfl
  · refine ⟨bs 1 ++ (bs 2 ++ (bs 3 ++ (bs 4 ++ bs 5))), fun X D cl H h => ?_, fun X A h => ?_, fun X B D cl H h => ?_, fun X B A h => ?_⟩
    · rw [List.append_assoc]; exact h
    · rw [List.append_assoc]; exact h
    · rw [List.append_assoc] at h; exact h
    · rw [List.append_assoc] at h; exact h
  · refine ⟨(bs 2 ++ (bs 3 ++ (bs 4 ++ bs 5))) ++ bs 0, fun X D cl H h => ?_, fun X A h => ?_, fun X B D cl H h => ?_, fun X B A h => ?_⟩
    · have h2 := swp_P (X := X) (B := bs 0) (C := bs 1 ++ (bs 2 ++ (bs 3 ++ (bs 4 ++ bs 5)))) h
      simpa only [List.append_assoc] using h2
    · have h2 := swp_D (X := X) (B := bs 0) (C := bs 1 ++ (bs 2 ++ (bs 3 ++ (bs 4 ++ bs 5)))) h
      simpa only [List.append_assoc] using h2
    · have h2 := swp_P (X := X) (B := B ++ (bs 2 ++ (bs 3 ++ (bs 4 ++ bs 5)))) (C := bs 0) (by simpa only [List.append_assoc] using h)
      rw [List.append_assoc] at h2; exact h2
    · have h2 := swp_D (X := X) (B := B ++ (bs 2 ++ (bs 3 ++ (bs 4 ++ bs 5)))) (C := bs 0) (by simpa only [List.append_assoc] using h)
      rw [List.append_assoc] at h2; exact h2
  · refine ⟨(bs 3 ++ (bs 4 ++ bs 5)) ++ (bs 0 ++ bs 1), fun X D cl H h => ?_, fun X A h => ?_, fun X B D cl H h => ?_, fun X B A h => ?_⟩
    · have h2 := swp_P (X := X) (B := bs 0 ++ bs 1) (C := bs 2 ++ (bs 3 ++ (bs 4 ++ bs 5))) (by rw [List.append_assoc (bs 0)]; exact h)
      simpa only [List.append_assoc] using h2
    · have h2 := swp_D (X := X) (B := bs 0 ++ bs 1) (C := bs 2 ++ (bs 3 ++ (bs 4 ++ bs 5))) (by rw [List.append_assoc (bs 0)]; exact h)
      simpa only [List.append_assoc] using h2
    · have h2 := swp_P (X := X) (B := B ++ (bs 3 ++ (bs 4 ++ bs 5))) (C := bs 0 ++ bs 1) (by simpa only [List.append_assoc] using h)
      rw [List.append_assoc, List.append_assoc (bs 0)] at h2; exact h2
    · have h2 := swp_D (X := X) (B := B ++ (bs 3 ++ (bs 4 ++ bs 5))) (C := bs 0 ++ bs 1) (by simpa only [List.append_assoc] using h)
      rw [List.append_assoc, List.append_assoc (bs 0)] at h2; exact h2
  · refine ⟨(bs 4 ++ bs 5) ++ (bs 0 ++ (bs 1 ++ bs 2)), fun X D cl H h => ?_, fun X A h => ?_, fun X B D cl H h => ?_, fun X B A h => ?_⟩
    · have h2 := swp_P (X := X) (B := bs 0 ++ (bs 1 ++ bs 2)) (C := bs 3 ++ (bs 4 ++ bs 5)) (by rw [List.append_assoc (bs 0), List.append_assoc (bs 1)]; exact h)
      simpa only [List.append_assoc] using h2
    · have h2 := swp_D (X := X) (B := bs 0 ++ (bs 1 ++ bs 2)) (C := bs 3 ++ (bs 4 ++ bs 5)) (by rw [List.append_assoc (bs 0), List.append_assoc (bs 1)]; exact h)
      simpa only [List.append_assoc] using h2
    · have h2 := swp_P (X := X) (B := B ++ (bs 4 ++ bs 5)) (C := bs 0 ++ (bs 1 ++ bs 2)) (by simpa only [List.append_assoc] using h)
      rw [List.append_assoc, List.append_assoc (bs 0), List.append_assoc (bs 1)] at h2; exact h2
    · have h2 := swp_D (X := X) (B := B ++ (bs 4 ++ bs 5)) (C := bs 0 ++ (bs 1 ++ bs 2)) (by simpa only [List.append_assoc] using h)
      rw [List.append_assoc, List.append_assoc (bs 0), List.append_assoc (bs 1)] at h2; exact h2
  · refine ⟨bs 5 ++ (bs 0 ++ (bs 1 ++ (bs 2 ++ bs 3))), fun X D cl H h => ?_, fun X A h => ?_, fun X B D cl H h => ?_, fun X B A h => ?_⟩
    · have h2 := swp_P (X := X) (B := bs 0 ++ (bs 1 ++ (bs 2 ++ bs 3))) (C := bs 4 ++ bs 5) (by rw [List.append_assoc (bs 0), List.append_assoc (bs 1), List.append_assoc (bs 2)]; exact h)
      simpa only [List.append_assoc] using h2
    · have h2 := swp_D (X := X) (B := bs 0 ++ (bs 1 ++ (bs 2 ++ bs 3))) (C := bs 4 ++ bs 5) (by rw [List.append_assoc (bs 0), List.append_assoc (bs 1), List.append_assoc (bs 2)]; exact h)
      simpa only [List.append_assoc] using h2
    · have h2 := swp_P (X := X) (B := B ++ bs 5) (C := bs 0 ++ (bs 1 ++ (bs 2 ++ bs 3))) (by simpa only [List.append_assoc] using h)
      rw [List.append_assoc, List.append_assoc (bs 0), List.append_assoc (bs 1), List.append_assoc (bs 2)] at h2; exact h2
    · have h2 := swp_D (X := X) (B := B ++ bs 5) (C := bs 0 ++ (bs 1 ++ (bs 2 ++ bs 3))) (by simpa only [List.append_assoc] using h)
      rw [List.append_assoc, List.append_assoc (bs 0), List.append_assoc (bs 1), List.append_assoc (bs 2)] at h2; exact h2
  · refine ⟨bs 0 ++ (bs 1 ++ (bs 2 ++ (bs 3 ++ bs 4))), fun X D cl H h => ?_, fun X A h => ?_, fun X B D cl H h => ?_, fun X B A h => ?_⟩
    · exact swp_P (X := X) (B := bs 0 ++ (bs 1 ++ (bs 2 ++ (bs 3 ++ bs 4)))) (C := bs 5) (by rw [List.append_assoc (bs 0), List.append_assoc (bs 1), List.append_assoc (bs 2), List.append_assoc (bs 3)]; exact h)
    · exact swp_D (X := X) (B := bs 0 ++ (bs 1 ++ (bs 2 ++ (bs 3 ++ bs 4)))) (C := bs 5) (by rw [List.append_assoc (bs 0), List.append_assoc (bs 1), List.append_assoc (bs 2), List.append_assoc (bs 3)]; exact h)
    · have h2 := swp_P (X := X) (B := B) (C := bs 0 ++ (bs 1 ++ (bs 2 ++ (bs 3 ++ bs 4)))) (by rw [List.append_assoc] at h; exact h)
      rw [List.append_assoc, List.append_assoc (bs 0), List.append_assoc (bs 1), List.append_assoc (bs 2), List.append_assoc (bs 3)] at h2; exact h2
    · have h2 := swp_D (X := X) (B := B) (C := bs 0 ++ (bs 1 ++ (bs 2 ++ (bs 3 ++ bs 4)))) (by rw [List.append_assoc] at h; exact h)
      rw [List.append_assoc, List.append_assoc (bs 0), List.append_assoc (bs 1), List.append_assoc (bs 2), List.append_assoc (bs 3)] at h2; exact h2
theorem boats_up {E : vE} {ob : Nat → Nat} {sp9 : Nat → Nat → Int32} {bs : Nat → va_W} {j : Nat} {B9 : va_W} (h : ∀ i : Nat, i < 6 → IsBoat E (ob i) (sp9 i) (bs i)) (hb : IsBoat E (ob j) (sp9 j) B9) : ∀ i : Nat, i < 6 → IsBoat E (ob i) (sp9 i) (va_up bs j B9 i) := by
  intro i hi
  by_cases e : i = j
  · subst e; rw [va_up_self]; exact hb
  · rw [va_up_ne _ _ e]; exact h i hi
theorem boats_upS {E : vE} {ob : Nat → Nat} {sp9 : Nat → Nat → Int32} {bs : Nat → va_W} {j : Nat} {B9 : va_W} {f : Nat → Int32} (h : ∀ i : Nat, i < 6 → IsBoat E (ob i) (sp9 i) (bs i)) (hb : IsBoat E (ob j) f B9) : ∀ i : Nat, i < 6 → IsBoat E (ob i) (va_up sp9 j f i) (va_up bs j B9 i) := by
  intro i hi
  by_cases e : i = j
  · subst e; rw [va_up_self, va_up_self]; exact hb
  · rw [va_up_ne _ _ e, va_up_ne _ _ e]; exact h i hi
theorem selJ (b : Int32) : ∃ j : Nat, j < 6 ∧ (inR b 0 5 = true → b.toNatClampNeg = j) := by
  rcases selB b with h | h | h | h | h | h | h
  · exact ⟨0, by decide, fun q => by rw [h] at q; cases q⟩
  · exact ⟨0, by decide, fun _ => h⟩
  · exact ⟨1, by decide, fun _ => h⟩
  · exact ⟨2, by decide, fun _ => h⟩
  · exact ⟨3, by decide, fun _ => h⟩
  · exact ⟨4, by decide, fun _ => h⟩
  · exact ⟨5, by decide, fun _ => h⟩
theorem selCJ (w : Int32) : ∃ j : Nat, j < 6 ∧ (inR w 10 15 = true → (w - 10).toNatClampNeg = j) ∧ (inR w 20 25 = true → (w - 20).toNatClampNeg = j) := by
  rcases selC w with ⟨h, h'⟩ | ⟨h, h'⟩ | ⟨h, h'⟩
  · exact ⟨0, by decide, fun q => (by rw [h] at q; cases q), fun q => (by rw [h'] at q; cases q)⟩
  · refine ⟨(w - 10).toNatClampNeg, by omega, fun _ => rfl, fun q => (by rw [h] at q; cases q)⟩
  · refine ⟨(w - 20).toNatClampNeg, by omega, fun q => (by rw [h] at q; cases q), fun _ => rfl⟩
theorem wind_rel {fw fw2 w1 w2 v1 v2 : Nat → Int32} {zone month dir force r1 r2 : Int32} (h : ∀ k : Nat, k < 288 → fw k = 10 * w1 k + w2 k)
    (hx : ((inR zone 0 23 && inR month 0 11 && inR dir 0 7 && inR force 0 9) = true ∧ r1 = fw (zone * 12 + month).toNatClampNeg ∧ fw2 = upd fw (zone * 12 + month).toNatClampNeg (10 * dir + force)) ∨ ((inR zone 0 23 && inR month 0 11 && inR dir 0 7 && inR force 0 9) = false ∧ r1 = -2 ∧ fw2 = fw))
    (hm : ((inR zone 0 23 && inR month 0 11 && inR dir 0 7 && inR force 0 9) = true ∧ r2 = 10 * w1 (12 * zone + month).toNatClampNeg + w2 (12 * zone + month).toNatClampNeg ∧ v1 = upd w1 (12 * zone + month).toNatClampNeg dir ∧ v2 = upd w2 (12 * zone + month).toNatClampNeg force) ∨ ((inR zone 0 23 && inR month 0 11 && inR dir 0 7 && inR force 0 9) = false ∧ r2 = -2 ∧ v1 = w1 ∧ v2 = w2)) : r1 = r2 ∧ ∀ k : Nat, k < 288 → fw2 k = 10 * v1 k + v2 k := by
  rcases hx with ⟨a, b, c⟩ | ⟨a, b, c⟩ <;> rcases hm with ⟨a', b', c', d'⟩ | ⟨a', b', c', d'⟩
  · have e : zone * 12 + month = 12 * zone + month := by rw [Int32.mul_comm]
    have hin : vp_in (zone * 12 + month) 288 := by
      rw [Bool.and_eq_true, Bool.and_eq_true, Bool.and_eq_true] at a
      exact ixA a.1.1.1 (a := 23) (by decide) a.1.1.2 (b := 11) (by decide) (M := 12) rfl (by decide) (by decide)
    rw [← e] at b' c' d'
    refine ⟨by rw [b, b', h _ (vin_cl hin)], fun k hk => ?_⟩
    rw [c, c', d']
    by_cases q : k = (zone * 12 + month).toNatClampNeg
    · rw [q, pk_us, pk_us, pk_us]
    · rw [pk_un q, pk_un q, pk_un q]; exact h k hk
  · rw [a] at a'; cases a'
  · rw [a] at a'; cases a'
  · refine ⟨by rw [b, b'], fun k hk => ?_⟩
    rw [c, c', d']; exact h k hk
theorem port_rel {fo fo2 w1 v1 : Nat → Int32} {pp place r1 r2 : Int32} (h : ∀ k : Nat, k < 10 → fo k = w1 k) (hx : ((inR pp 0 9 && isPl place) = true ∧ r1 = fo pp.toNatClampNeg ∧ fo2 = upd fo pp.toNatClampNeg place) ∨ ((inR pp 0 9 && isPl place) = false ∧ r1 = -2 ∧ fo2 = fo)) (hm : ((inR pp 0 9 && isPl place) = true ∧ r2 = w1 pp.toNatClampNeg ∧ v1 = upd w1 pp.toNatClampNeg place) ∨ ((inR pp 0 9 && isPl place) = false ∧ r2 = -2 ∧ v1 = w1)) : r1 = r2 ∧ ∀ k : Nat, k < 10 → fo2 k = v1 k := by
  rcases hx with ⟨a, b, c⟩ | ⟨a, b, c⟩ <;> rcases hm with ⟨a', b', c'⟩ | ⟨a', b', c'⟩
  · have hin : vp_in pp 10 := by
      rw [Bool.and_eq_true] at a
      exact inR_in (by decide) a.1
    refine ⟨by rw [b, b', h _ (vin_cl hin)], fun k hk => ?_⟩
    rw [c, c']
    by_cases q : k = pp.toNatClampNeg
    · rw [q, pk_us, pk_us]
    · rw [pk_un q, pk_un q]; exact h k hk
  · rw [a] at a'; cases a'
  · rw [a] at a'; cases a'
  · refine ⟨by rw [b, b'], fun k hk => ?_⟩
    rw [c, c']; exact h k hk
theorem flight_rel {fo fo2 w1 v1 : Nat → Int32} {pp qq cost r1 r2 : Int32} (h : ∀ k : Nat, k < 100 → fo k = w1 k) (hx : ((inR pp 0 9 && inR qq 0 9 && !(decide (pp = qq)) && inR cost (-1) 10000) = true ∧ r1 = fo (pp * 10 + qq).toNatClampNeg ∧ fo2 = upd (upd fo (pp * 10 + qq).toNatClampNeg cost) (qq * 10 + pp).toNatClampNeg cost) ∨ ((inR pp 0 9 && inR qq 0 9 && !(decide (pp = qq)) && inR cost (-1) 10000) = false ∧ r1 = -2 ∧ fo2 = fo)) (hm : ((inR pp 0 9 && inR qq 0 9 && !(decide (pp = qq)) && inR cost (-1) 10000) = true ∧ r2 = w1 (10 * pp + qq).toNatClampNeg ∧ v1 = upd (upd w1 (10 * pp + qq).toNatClampNeg cost) (10 * qq + pp).toNatClampNeg cost) ∨ ((inR pp 0 9 && inR qq 0 9 && !(decide (pp = qq)) && inR cost (-1) 10000) = false ∧ r2 = -2 ∧ v1 = w1)) : r1 = r2 ∧ ∀ k : Nat, k < 100 → fo2 k = v1 k := by
  rcases hx with ⟨a, b, c⟩ | ⟨a, b, c⟩ <;> rcases hm with ⟨a', b', c'⟩ | ⟨a', b', c'⟩
  · have e1 : pp * 10 + qq = 10 * pp + qq := by rw [Int32.mul_comm]
    have e2 : qq * 10 + pp = 10 * qq + pp := by rw [Int32.mul_comm]
    have hin : vp_in (pp * 10 + qq) 100 := by
      rw [Bool.and_eq_true, Bool.and_eq_true, Bool.and_eq_true] at a
      exact ixA a.1.1.1 (a := 9) (by decide) a.1.1.2 (b := 9) (by decide) (M := 10) rfl (by decide) (by decide)
    rw [← e1] at b' c'
    rw [← e2] at c'
    refine ⟨by rw [b, b', h _ (vin_cl hin)], fun k hk => ?_⟩
    rw [c, c']
    by_cases q : k = (qq * 10 + pp).toNatClampNeg
    · rw [q, pk_us, pk_us]
    · rw [pk_un q, pk_un q]
      by_cases q2 : k = (pp * 10 + qq).toNatClampNeg
      · rw [q2, pk_us, pk_us]
      · rw [pk_un q2, pk_un q2]; exact h k hk
  · rw [a] at a'; cases a'
  · rw [a] at a'; cases a'
  · refine ⟨by rw [b, b'], fun k hk => ?_⟩
    rw [c, c']; exact h k hk
theorem deliv_rel {fr to_ le fi la r1 r2 : Int32} {on on2 dl2 : Nat} (hx : ((inR fr 0 9 && inR to_ 0 9 && inR le 1 200 && inR fi 0 999 && inR la fi 999) = true ∧ on < 7 ∧ r1 = nI on ∧ on2 = on + 1) ∨ ((inR fr 0 9 && inR to_ 0 9 && inR le 1 200 && inR fi 0 999 && inR la fi 999) = true ∧ on = 7 ∧ r1 = -3 ∧ on2 = on) ∨ ((inR fr 0 9 && inR to_ 0 9 && inR le 1 200 && inR fi 0 999 && inR la fi 999) = false ∧ r1 = -2 ∧ on2 = on)) (hm : ((inR fr 0 9 && inR to_ 0 9 && inR le 1 200 && inR fi 0 999 && inR la fi 999) = true ∧ on < 7 ∧ r2 = nI on ∧ dl2 = on + 1) ∨ ((inR fr 0 9 && inR to_ 0 9 && inR le 1 200 && inR fi 0 999 && inR la fi 999) = true ∧ on = 7 ∧ r2 = -3 ∧ dl2 = on) ∨ ((inR fr 0 9 && inR to_ 0 9 && inR le 1 200 && inR fi 0 999 && inR la fi 999) = false ∧ r2 = -2 ∧ dl2 = on)) : r1 = r2 ∧ dl2 = on2 := by
  rcases hx with ⟨a, b, c, d⟩ | ⟨a, b, c, d⟩ | ⟨a, c, d⟩ <;> rcases hm with ⟨a', b', c', d'⟩ | ⟨a', b', c', d'⟩ | ⟨a', c', d'⟩
  all_goals first | (exact ⟨c.trans c'.symm, d'.trans d.symm⟩) | (exfalso; omega) | (rw [a] at a'; cases a')
theorem sp_ix {b angle band : Int32} (hb : inR b 0 5 = true) (ha : inR angle 0 4 = true) (hd : inR band 0 4 = true) : (angle * 5 + band).toNatClampNeg < 25 ∧ (25 * b + 5 * angle + band).toNatClampNeg = 25 * b.toNatClampNeg + (angle * 5 + band).toNatClampNeg := by
  obtain ⟨i, hi, rfl⟩ := inR_nI (n := 5) (by decide) hb
  obtain ⟨j, hj, rfl⟩ := inR_nI (n := 4) (by decide) ha
  obtain ⟨k, hk, rfl⟩ := inR_nI (n := 4) (by decide) hd
  rw [show (25 : Int32) = nI 25 from rfl, show (5 : Int32) = nI 5 from rfl]
  simp only [pk_mul, nI_add]
  rw [nI_clamp (by omega), nI_clamp (by omega), nI_clamp (by omega)]
  omega
theorem speed_rel {sp9 : Nat → Nat → Int32} {j : Nat} {fs2 w1 v1 : Nat → Int32} {b angle band tenths r1 r2 : Int32} (h : ∀ j : Nat, j < 6 → ∀ k : Nat, k < 25 → sp9 j k = w1 (25 * j + k)) (hj : j < 6) (hsel : inR b 0 5 = true → b.toNatClampNeg = j) (hx : ((inR b 0 5 && inR angle 0 4 && inR band 0 4 && inR tenths 0 40) = true ∧ r1 = sp9 j (angle * 5 + band).toNatClampNeg ∧ fs2 = upd (sp9 j) (angle * 5 + band).toNatClampNeg tenths) ∨ ((inR b 0 5 && inR angle 0 4 && inR band 0 4 && inR tenths 0 40) = false ∧ r1 = -2 ∧ fs2 = sp9 j)) (hm : ((inR b 0 5 && inR angle 0 4 && inR band 0 4 && inR tenths 0 40) = true ∧ r2 = w1 (25 * b + 5 * angle + band).toNatClampNeg ∧ v1 = upd w1 (25 * b + 5 * angle + band).toNatClampNeg tenths) ∨ ((inR b 0 5 && inR angle 0 4 && inR band 0 4 && inR tenths 0 40) = false ∧ r2 = -2 ∧ v1 = w1)) : r1 = r2 ∧ ∀ i : Nat, i < 6 → ∀ k : Nat, k < 25 → va_up sp9 j fs2 i k = v1 (25 * i + k) := by
  rcases hx with ⟨a, x1, x2⟩ | ⟨a, x1, x2⟩ <;> rcases hm with ⟨a', y1, y2⟩ | ⟨a', y1, y2⟩
  · rw [Bool.and_eq_true, Bool.and_eq_true, Bool.and_eq_true] at a
    obtain ⟨s1, s2⟩ := sp_ix a.1.1.1 a.1.1.2 a.1.2
    rw [hsel a.1.1.1] at s2
    rw [s2] at y1 y2
    refine ⟨by rw [x1, y1]; exact h j hj _ s1, fun i hi k hk => ?_⟩
    rw [y2]
    by_cases e : i = j
    · subst e
      rw [va_up_self, x2]
      by_cases q : k = (angle * 5 + band).toNatClampNeg
      · rw [q, pk_us, pk_us]
      · rw [pk_un q, pk_un (by omega)]; exact h i hi k hk
    · rw [va_up_ne _ _ e, pk_un (by omega)]; exact h i hi k hk
  · rw [a] at a'; cases a'
  · rw [a] at a'; cases a'
  · refine ⟨by rw [x1, y1], fun i hi k hk => ?_⟩
    rw [y2]
    by_cases e : i = j
    · subst e; rw [va_up_self, x2]; exact h i hi k hk
    · rw [va_up_ne _ _ e]; exact h i hi k hk

