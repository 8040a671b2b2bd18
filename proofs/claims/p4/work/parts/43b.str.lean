set_option maxRecDepth 100000 in
set_option maxHeartbeats 4000000 in
theorem str_m5 : ∀ i : Nat, i < 17 → ∀ j : Nat, j < sLen.getD i 0 → (Cond.eq (.elem (.field (tmS i) "java/lang/String" "value" "[B") (.int (Int32.ofNat j))) (.int ((sByt.getD i []).getD j 0))) ∈ (flatC (Jvm.Cond.and given_1 narrow_1)) := by
  intro i hi j hj
  rcases (show i = 0 ∨ i = 1 ∨ i = 2 ∨ i = 3 ∨ i = 4 ∨ i = 5 ∨ i = 6 ∨ i = 7 ∨ i = 8 ∨ i = 9 ∨ i = 10 ∨ i = 11 ∨ i = 12 ∨ i = 13 ∨ i = 14 ∨ i = 15 ∨ i = 16 by omega) with rfl | rfl | rfl | rfl | rfl | rfl | rfl | rfl | rfl | rfl | rfl | rfl | rfl | rfl | rfl | rfl | rfl
  · exact in_seS0 _ ((show ∀ j : Nat, j < 4 → (Cond.eq (.elem (.field (tmS 0) "java/lang/String" "value" "[B") (.int (Int32.ofNat j))) (.int ((sByt.getD 0 []).getD j 0))) ∈ seS0 by decide +kernel) j hj)
  · exact in_seS1 _ ((show ∀ j : Nat, j < 5 → (Cond.eq (.elem (.field (tmS 1) "java/lang/String" "value" "[B") (.int (Int32.ofNat j))) (.int ((sByt.getD 1 []).getD j 0))) ∈ seS1 by decide +kernel) j hj)
  · exact in_seS2 _ ((show ∀ j : Nat, j < 5 → (Cond.eq (.elem (.field (tmS 2) "java/lang/String" "value" "[B") (.int (Int32.ofNat j))) (.int ((sByt.getD 2 []).getD j 0))) ∈ seS2 by decide +kernel) j hj)
  · exact in_seS3 _ ((show ∀ j : Nat, j < 3 → (Cond.eq (.elem (.field (tmS 3) "java/lang/String" "value" "[B") (.int (Int32.ofNat j))) (.int ((sByt.getD 3 []).getD j 0))) ∈ seS3 by decide +kernel) j hj)
  · exact in_seS4 _ ((show ∀ j : Nat, j < 6 → (Cond.eq (.elem (.field (tmS 4) "java/lang/String" "value" "[B") (.int (Int32.ofNat j))) (.int ((sByt.getD 4 []).getD j 0))) ∈ seS4 by decide +kernel) j hj)
  · exact in_seS5 _ ((show ∀ j : Nat, j < 5 → (Cond.eq (.elem (.field (tmS 5) "java/lang/String" "value" "[B") (.int (Int32.ofNat j))) (.int ((sByt.getD 5 []).getD j 0))) ∈ seS5 by decide +kernel) j hj)
  · exact in_seS6 _ ((show ∀ j : Nat, j < 5 → (Cond.eq (.elem (.field (tmS 6) "java/lang/String" "value" "[B") (.int (Int32.ofNat j))) (.int ((sByt.getD 6 []).getD j 0))) ∈ seS6 by decide +kernel) j hj)
  · exact in_seS7 _ ((show ∀ j : Nat, j < 0 → (Cond.eq (.elem (.field (tmS 7) "java/lang/String" "value" "[B") (.int (Int32.ofNat j))) (.int ((sByt.getD 7 []).getD j 0))) ∈ seS7 by decide +kernel) j hj)
  · exact in_seS8 _ ((show ∀ j : Nat, j < 2 → (Cond.eq (.elem (.field (tmS 8) "java/lang/String" "value" "[B") (.int (Int32.ofNat j))) (.int ((sByt.getD 8 []).getD j 0))) ∈ seS8 by decide +kernel) j hj)
  · exact in_seS9 _ ((show ∀ j : Nat, j < 4 → (Cond.eq (.elem (.field (tmS 9) "java/lang/String" "value" "[B") (.int (Int32.ofNat j))) (.int ((sByt.getD 9 []).getD j 0))) ∈ seS9 by decide +kernel) j hj)
  · exact in_seS10 _ ((show ∀ j : Nat, j < 4 → (Cond.eq (.elem (.field (tmS 10) "java/lang/String" "value" "[B") (.int (Int32.ofNat j))) (.int ((sByt.getD 10 []).getD j 0))) ∈ seS10 by decide +kernel) j hj)
  · exact in_seS11 _ ((show ∀ j : Nat, j < 3 → (Cond.eq (.elem (.field (tmS 11) "java/lang/String" "value" "[B") (.int (Int32.ofNat j))) (.int ((sByt.getD 11 []).getD j 0))) ∈ seS11 by decide +kernel) j hj)
  · exact in_seS12 _ ((show ∀ j : Nat, j < 3 → (Cond.eq (.elem (.field (tmS 12) "java/lang/String" "value" "[B") (.int (Int32.ofNat j))) (.int ((sByt.getD 12 []).getD j 0))) ∈ seS12 by decide +kernel) j hj)
  · exact in_seS13 _ ((show ∀ j : Nat, j < 4 → (Cond.eq (.elem (.field (tmS 13) "java/lang/String" "value" "[B") (.int (Int32.ofNat j))) (.int ((sByt.getD 13 []).getD j 0))) ∈ seS13 by decide +kernel) j hj)
  · exact in_seS14 _ ((show ∀ j : Nat, j < 2 → (Cond.eq (.elem (.field (tmS 14) "java/lang/String" "value" "[B") (.int (Int32.ofNat j))) (.int ((sByt.getD 14 []).getD j 0))) ∈ seS14 by decide +kernel) j hj)
  · exact in_seS15 _ ((show ∀ j : Nat, j < 4 → (Cond.eq (.elem (.field (tmS 15) "java/lang/String" "value" "[B") (.int (Int32.ofNat j))) (.int ((sByt.getD 15 []).getD j 0))) ∈ seS15 by decide +kernel) j hj)
  · exact in_seS16 _ ((show ∀ j : Nat, j < 74 → (Cond.eq (.elem (.field (tmS 16) "java/lang/String" "value" "[B") (.int (Int32.ofNat j))) (.int ((sByt.getD 16 []).getD j 0))) ∈ seS16 by decide +kernel) j hj)
set_option maxRecDepth 100000 in
set_option maxHeartbeats 4000000 in
theorem str_n6 : ∀ i : Nat, i < 17 → ∀ j : Nat, j < 17 → i ≠ j → (Cond.not (Cond.eq (tmS i) (tmS j))) ∈ seN ∨ (Cond.not (Cond.eq (tmS j) (tmS i))) ∈ seN := by decide +kernel
theorem str_m6 : ∀ i : Nat, i < 17 → ∀ j : Nat, j < 17 → i ≠ j → (Cond.not (Cond.eq (tmS i) (tmS j))) ∈ (flatC (Jvm.Cond.and given_1 narrow_1)) ∨ (Cond.not (Cond.eq (tmS j) (tmS i))) ∈ (flatC (Jvm.Cond.and given_1 narrow_1)) := fun i hi j hj h => (str_n6 i hi j hj h).imp (in_seN _) (in_seN _)
set_option maxRecDepth 100000 in
set_option maxHeartbeats 4000000 in
theorem law_str {s : State} {b : Nat} {A : Nat → Prop} (hgv : (Jvm.Cond.and given_1 narrow_1).before #[Value.ref b] s = true) (hA : ∀ a : Nat, a < s.heap.size → ¬ A a) : ∃ adK adV : Nat → Nat, vk_S 17 sLen sByt adK adV A s s.heap ∧ ∀ i : Nat, i < 17 → (tmS i).eval #[Value.ref b] s none [] s = some (.ref (adK i)) := by
  have hs := flat_of_before _ hgv
  refine vk_Sof (tm := tmS) (fun i hi => s_len hi) (fun i hi => hs _ (str_m1 i hi)) (fun i hi => hs _ (str_m2 i hi)) (fun i hi => hs _ (str_m3 i hi)) (fun i hi => hs _ (str_m4 i hi)) (fun i hi j hj => hs _ (str_m5 i hi j hj)) (fun i j hi hj hne => ?_) hA
  rcases str_m6 i hi j hj hne with h | h
  · exact Or.inl (hs _ h)
  · exact Or.inr (hs _ h)
