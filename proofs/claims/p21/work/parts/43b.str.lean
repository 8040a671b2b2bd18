set_option maxRecDepth 100000 in
set_option maxHeartbeats 4000000 in
theorem str_m5 : ∀ i : Nat, i < 17 → ∀ j : Nat, j < sLen.getD i 0 → (Cond.eq (.elem (.field (tmS i) "java/lang/String" "value" "[B") (.int (Int32.ofNat j))) (.int ((sByt.getD i []).getD j 0))) ∈ (flatC (Jvm.Cond.and given_1 narrow_1)) := by
  intro i hi j hj
  rcases (show i = 0 ∨ i = 1 ∨ i = 2 ∨ i = 3 ∨ i = 4 ∨ i = 5 ∨ i = 6 ∨ i = 7 ∨ i = 8 ∨ i = 9 ∨ i = 10 ∨ i = 11 ∨ i = 12 ∨ i = 13 ∨ i = 14 ∨ i = 15 ∨ i = 16 by omega) with rfl | rfl | rfl | rfl | rfl | rfl | rfl | rfl | rfl | rfl | rfl | rfl | rfl | rfl | rfl | rfl | rfl
  · exact in_seS0 _ ((show ∀ j : Nat, j < 4 → (Cond.eq (.elem (.field (tmS 0) "java/lang/String" "value" "[B") (.int (Int32.ofNat j))) (.int ((sByt.getD 0 []).getD j 0))) ∈ seS0 by decide +kernel) j hj)
  · exact in_seS1 _ ((show ∀ j : Nat, j < 5 → (Cond.eq (.elem (.field (tmS 1) "java/lang/String" "value" "[B") (.int (Int32.ofNat j))) (.int ((sByt.getD 1 []).getD j 0))) ∈ seS1 by decide +kernel) j hj)
  · exact in_seS2 _ ((show ∀ j : Nat, j < 5 → (Cond.eq (.elem (.field (tmS 2) "java/lang/String" "value" "[B") (.int (Int32.ofNat j))) (.int ((sByt.getD 2 []).getD j 0))) ∈ seS2 by decide +kernel) j hj)
  · exact in_seS3 _ ((show ∀ j : Nat, j < 3 → (Cond.eq (.elem (.field (tmS 3) "java/lang/String" "value" "[B") (.int (Int32.ofNat j))) (.int ((sByt.getD 3 []).getD j 0))) ∈ seS3 by decide +kernel) j hj)
  · exact in_seS4 _ ((show ∀ j : Nat, j < 6 → (Cond.eq (.elem (.field (tmS 4) "java/lang/String" "value" "[B") (.int (Int32.ofNat j))) (.int ((sByt.getD 4 []).getD j 0))) ∈ seS4 by decide +kernel) j hj)
  · exact in_seS5 _ ((show ∀ j : Nat, j < 5 → (Cond.eq (.elem (.field (tmS 5) "java/lang/String" "value" "[B") (.int (Int32.ofNat j))) (.int ((sByt.getD 5 []).getD j 0))) ∈ seS5 by decide +kernel) j hj)
  · exact in_seS6 _ ((show ∀ j : Nat, j < 5 → (Cond.eq (.elem (.field (tmS 6) "java/lang/String" "value" "[B") (.int (Int32.ofNat j))) (.int ((sByt.getD 6 []).getD j 0))) ∈ seS6 by decide +kernel) j hj)
  · exact in_seS7 _ ((show ∀ j : Nat, j < 0 → (Cond.eq (.elem (.field (tmS 7) "java/lang/String" "value" "[B") (.int (Int32.ofNat j))) (.int ((sByt.getD 7 []).getD j 0))) ∈ seS7 by decide +kernel) j hj)
  · exact in_seS8 _ ((show ∀ j : Nat, j < 2 → (Cond.eq (.elem (.field (tmS 8) "java/lang/String" "value" "[B") (.int (Int32.ofNat j))) (.int ((sByt.getD 8 []).getD j 0))) ∈ seS8 by decide +kernel) j hj)
  · exact in_seS9 _ ((show ∀ j : Nat, j < 4 → (Cond.eq (.elem (.field (tmS 9) "java/lang/String" "value" "[B") (.int (Int32.ofNat j))) (.int ((sByt.getD 9 []).getD j 0))) ∈ seS9 by decide +kernel) j hj)
  · exact in_seS10 _ ((show ∀ j : Nat, j < 4 → (Cond.eq (.elem (.field (tmS 10) "java/lang/String" "value" "[B") (.int (Int32.ofNat j))) (.int ((sByt.getD 10 []).getD j 0))) ∈ seS10 by decide +kernel) j hj)
  · exact in_seS11 _ ((show ∀ j : Nat, j < 3 → (Cond.eq (.elem (.field (tmS 11) "java/lang/String" "value" "[B") (.int (Int32.ofNat j))) (.int ((sByt.getD 11 []).getD j 0))) ∈ seS11 by decide +kernel) j hj)
  · exact in_seS12 _ ((show ∀ j : Nat, j < 3 → (Cond.eq (.elem (.field (tmS 12) "java/lang/String" "value" "[B") (.int (Int32.ofNat j))) (.int ((sByt.getD 12 []).getD j 0))) ∈ seS12 by decide +kernel) j hj)
  · exact in_seS13 _ ((show ∀ j : Nat, j < 4 → (Cond.eq (.elem (.field (tmS 13) "java/lang/String" "value" "[B") (.int (Int32.ofNat j))) (.int ((sByt.getD 13 []).getD j 0))) ∈ seS13 by decide +kernel) j hj)
  · exact in_seS14 _ ((show ∀ j : Nat, j < 2 → (Cond.eq (.elem (.field (tmS 14) "java/lang/String" "value" "[B") (.int (Int32.ofNat j))) (.int ((sByt.getD 14 []).getD j 0))) ∈ seS14 by decide +kernel) j hj)
  · exact in_seS15 _ ((show ∀ j : Nat, j < 4 → (Cond.eq (.elem (.field (tmS 15) "java/lang/String" "value" "[B") (.int (Int32.ofNat j))) (.int ((sByt.getD 15 []).getD j 0))) ∈ seS15 by decide +kernel) j hj)
  · exact in_seS16 _ ((show ∀ j : Nat, j < 74 → (Cond.eq (.elem (.field (tmS 16) "java/lang/String" "value" "[B") (.int (Int32.ofNat j))) (.int ((sByt.getD 16 []).getD j 0))) ∈ seS16 by decide +kernel) j hj)
theorem str_m6_0 : ∀ j : Nat, j < 17 → 0 ≠ j → (Cond.not (Cond.eq (tmS 0) (tmS j))) ∈ (flatC (Jvm.Cond.and given_1 narrow_1)) ∨ (Cond.not (Cond.eq (tmS j) (tmS 0))) ∈ (flatC (Jvm.Cond.and given_1 narrow_1)) := by
  intro j hj hne
  rcases (show j = 0 ∨ j = 1 ∨ j = 2 ∨ j = 3 ∨ j = 4 ∨ j = 5 ∨ j = 6 ∨ j = 7 ∨ j = 8 ∨ j = 9 ∨ j = 10 ∨ j = 11 ∨ j = 12 ∨ j = 13 ∨ j = 14 ∨ j = 15 ∨ j = 16 by omega) with rfl | rfl | rfl | rfl | rfl | rfl | rfl | rfl | rfl | rfl | rfl | rfl | rfl | rfl | rfl | rfl | rfl
  · exact absurd rfl hne
  · exact Or.inl (in_seN_0 _ (List.mem_of_getElem? (i := 0) rfl))
  · exact Or.inl (in_seN_0 _ (List.mem_of_getElem? (i := 1) rfl))
  · exact Or.inl (in_seN_0 _ (List.mem_of_getElem? (i := 3) rfl))
  · exact Or.inl (in_seN_0 _ (List.mem_of_getElem? (i := 6) rfl))
  · exact Or.inl (in_seN_0 _ (List.mem_of_getElem? (i := 10) rfl))
  · exact Or.inl (in_seN_0 _ (List.mem_of_getElem? (i := 15) rfl))
  · exact Or.inl (in_seN_0 _ (List.mem_of_getElem? (i := 21) rfl))
  · exact Or.inl (in_seN_1 _ (List.mem_of_getElem? (i := 4) rfl))
  · exact Or.inl (in_seN_1 _ (List.mem_of_getElem? (i := 12) rfl))
  · exact Or.inl (in_seN_1 _ (List.mem_of_getElem? (i := 21) rfl))
  · exact Or.inl (in_seN_2 _ (List.mem_of_getElem? (i := 7) rfl))
  · exact Or.inl (in_seN_2 _ (List.mem_of_getElem? (i := 18) rfl))
  · exact Or.inl (in_seN_3 _ (List.mem_of_getElem? (i := 6) rfl))
  · exact Or.inl (in_seN_3 _ (List.mem_of_getElem? (i := 19) rfl))
  · exact Or.inl (in_seN_4 _ (List.mem_of_getElem? (i := 9) rfl))
  · exact Or.inl (in_seN_5 _ (List.mem_of_getElem? (i := 0) rfl))
theorem str_m6_1 : ∀ j : Nat, j < 17 → 1 ≠ j → (Cond.not (Cond.eq (tmS 1) (tmS j))) ∈ (flatC (Jvm.Cond.and given_1 narrow_1)) ∨ (Cond.not (Cond.eq (tmS j) (tmS 1))) ∈ (flatC (Jvm.Cond.and given_1 narrow_1)) := by
  intro j hj hne
  rcases (show j = 0 ∨ j = 1 ∨ j = 2 ∨ j = 3 ∨ j = 4 ∨ j = 5 ∨ j = 6 ∨ j = 7 ∨ j = 8 ∨ j = 9 ∨ j = 10 ∨ j = 11 ∨ j = 12 ∨ j = 13 ∨ j = 14 ∨ j = 15 ∨ j = 16 by omega) with rfl | rfl | rfl | rfl | rfl | rfl | rfl | rfl | rfl | rfl | rfl | rfl | rfl | rfl | rfl | rfl | rfl
  · exact Or.inr (in_seN_0 _ (List.mem_of_getElem? (i := 0) rfl))
  · exact absurd rfl hne
  · exact Or.inl (in_seN_0 _ (List.mem_of_getElem? (i := 2) rfl))
  · exact Or.inl (in_seN_0 _ (List.mem_of_getElem? (i := 4) rfl))
  · exact Or.inl (in_seN_0 _ (List.mem_of_getElem? (i := 7) rfl))
  · exact Or.inl (in_seN_0 _ (List.mem_of_getElem? (i := 11) rfl))
  · exact Or.inl (in_seN_0 _ (List.mem_of_getElem? (i := 16) rfl))
  · exact Or.inl (in_seN_0 _ (List.mem_of_getElem? (i := 22) rfl))
  · exact Or.inl (in_seN_1 _ (List.mem_of_getElem? (i := 5) rfl))
  · exact Or.inl (in_seN_1 _ (List.mem_of_getElem? (i := 13) rfl))
  · exact Or.inl (in_seN_1 _ (List.mem_of_getElem? (i := 22) rfl))
  · exact Or.inl (in_seN_2 _ (List.mem_of_getElem? (i := 8) rfl))
  · exact Or.inl (in_seN_2 _ (List.mem_of_getElem? (i := 19) rfl))
  · exact Or.inl (in_seN_3 _ (List.mem_of_getElem? (i := 7) rfl))
  · exact Or.inl (in_seN_3 _ (List.mem_of_getElem? (i := 20) rfl))
  · exact Or.inl (in_seN_4 _ (List.mem_of_getElem? (i := 10) rfl))
  · exact Or.inl (in_seN_5 _ (List.mem_of_getElem? (i := 1) rfl))
theorem str_m6_2 : ∀ j : Nat, j < 17 → 2 ≠ j → (Cond.not (Cond.eq (tmS 2) (tmS j))) ∈ (flatC (Jvm.Cond.and given_1 narrow_1)) ∨ (Cond.not (Cond.eq (tmS j) (tmS 2))) ∈ (flatC (Jvm.Cond.and given_1 narrow_1)) := by
  intro j hj hne
  rcases (show j = 0 ∨ j = 1 ∨ j = 2 ∨ j = 3 ∨ j = 4 ∨ j = 5 ∨ j = 6 ∨ j = 7 ∨ j = 8 ∨ j = 9 ∨ j = 10 ∨ j = 11 ∨ j = 12 ∨ j = 13 ∨ j = 14 ∨ j = 15 ∨ j = 16 by omega) with rfl | rfl | rfl | rfl | rfl | rfl | rfl | rfl | rfl | rfl | rfl | rfl | rfl | rfl | rfl | rfl | rfl
  · exact Or.inr (in_seN_0 _ (List.mem_of_getElem? (i := 1) rfl))
  · exact Or.inr (in_seN_0 _ (List.mem_of_getElem? (i := 2) rfl))
  · exact absurd rfl hne
  · exact Or.inl (in_seN_0 _ (List.mem_of_getElem? (i := 5) rfl))
  · exact Or.inl (in_seN_0 _ (List.mem_of_getElem? (i := 8) rfl))
  · exact Or.inl (in_seN_0 _ (List.mem_of_getElem? (i := 12) rfl))
  · exact Or.inl (in_seN_0 _ (List.mem_of_getElem? (i := 17) rfl))
  · exact Or.inl (in_seN_0 _ (List.mem_of_getElem? (i := 23) rfl))
  · exact Or.inl (in_seN_1 _ (List.mem_of_getElem? (i := 6) rfl))
  · exact Or.inl (in_seN_1 _ (List.mem_of_getElem? (i := 14) rfl))
  · exact Or.inl (in_seN_1 _ (List.mem_of_getElem? (i := 23) rfl))
  · exact Or.inl (in_seN_2 _ (List.mem_of_getElem? (i := 9) rfl))
  · exact Or.inl (in_seN_2 _ (List.mem_of_getElem? (i := 20) rfl))
  · exact Or.inl (in_seN_3 _ (List.mem_of_getElem? (i := 8) rfl))
  · exact Or.inl (in_seN_3 _ (List.mem_of_getElem? (i := 21) rfl))
  · exact Or.inl (in_seN_4 _ (List.mem_of_getElem? (i := 11) rfl))
  · exact Or.inl (in_seN_5 _ (List.mem_of_getElem? (i := 2) rfl))
theorem str_m6_3 : ∀ j : Nat, j < 17 → 3 ≠ j → (Cond.not (Cond.eq (tmS 3) (tmS j))) ∈ (flatC (Jvm.Cond.and given_1 narrow_1)) ∨ (Cond.not (Cond.eq (tmS j) (tmS 3))) ∈ (flatC (Jvm.Cond.and given_1 narrow_1)) := by
  intro j hj hne
  rcases (show j = 0 ∨ j = 1 ∨ j = 2 ∨ j = 3 ∨ j = 4 ∨ j = 5 ∨ j = 6 ∨ j = 7 ∨ j = 8 ∨ j = 9 ∨ j = 10 ∨ j = 11 ∨ j = 12 ∨ j = 13 ∨ j = 14 ∨ j = 15 ∨ j = 16 by omega) with rfl | rfl | rfl | rfl | rfl | rfl | rfl | rfl | rfl | rfl | rfl | rfl | rfl | rfl | rfl | rfl | rfl
  · exact Or.inr (in_seN_0 _ (List.mem_of_getElem? (i := 3) rfl))
  · exact Or.inr (in_seN_0 _ (List.mem_of_getElem? (i := 4) rfl))
  · exact Or.inr (in_seN_0 _ (List.mem_of_getElem? (i := 5) rfl))
  · exact absurd rfl hne
  · exact Or.inl (in_seN_0 _ (List.mem_of_getElem? (i := 9) rfl))
  · exact Or.inl (in_seN_0 _ (List.mem_of_getElem? (i := 13) rfl))
  · exact Or.inl (in_seN_0 _ (List.mem_of_getElem? (i := 18) rfl))
  · exact Or.inl (in_seN_1 _ (List.mem_of_getElem? (i := 0) rfl))
  · exact Or.inl (in_seN_1 _ (List.mem_of_getElem? (i := 7) rfl))
  · exact Or.inl (in_seN_1 _ (List.mem_of_getElem? (i := 15) rfl))
  · exact Or.inl (in_seN_2 _ (List.mem_of_getElem? (i := 0) rfl))
  · exact Or.inl (in_seN_2 _ (List.mem_of_getElem? (i := 10) rfl))
  · exact Or.inl (in_seN_2 _ (List.mem_of_getElem? (i := 21) rfl))
  · exact Or.inl (in_seN_3 _ (List.mem_of_getElem? (i := 9) rfl))
  · exact Or.inl (in_seN_3 _ (List.mem_of_getElem? (i := 22) rfl))
  · exact Or.inl (in_seN_4 _ (List.mem_of_getElem? (i := 12) rfl))
  · exact Or.inl (in_seN_5 _ (List.mem_of_getElem? (i := 3) rfl))
theorem str_m6_4 : ∀ j : Nat, j < 17 → 4 ≠ j → (Cond.not (Cond.eq (tmS 4) (tmS j))) ∈ (flatC (Jvm.Cond.and given_1 narrow_1)) ∨ (Cond.not (Cond.eq (tmS j) (tmS 4))) ∈ (flatC (Jvm.Cond.and given_1 narrow_1)) := by
  intro j hj hne
  rcases (show j = 0 ∨ j = 1 ∨ j = 2 ∨ j = 3 ∨ j = 4 ∨ j = 5 ∨ j = 6 ∨ j = 7 ∨ j = 8 ∨ j = 9 ∨ j = 10 ∨ j = 11 ∨ j = 12 ∨ j = 13 ∨ j = 14 ∨ j = 15 ∨ j = 16 by omega) with rfl | rfl | rfl | rfl | rfl | rfl | rfl | rfl | rfl | rfl | rfl | rfl | rfl | rfl | rfl | rfl | rfl
  · exact Or.inr (in_seN_0 _ (List.mem_of_getElem? (i := 6) rfl))
  · exact Or.inr (in_seN_0 _ (List.mem_of_getElem? (i := 7) rfl))
  · exact Or.inr (in_seN_0 _ (List.mem_of_getElem? (i := 8) rfl))
  · exact Or.inr (in_seN_0 _ (List.mem_of_getElem? (i := 9) rfl))
  · exact absurd rfl hne
  · exact Or.inl (in_seN_0 _ (List.mem_of_getElem? (i := 14) rfl))
  · exact Or.inl (in_seN_0 _ (List.mem_of_getElem? (i := 19) rfl))
  · exact Or.inl (in_seN_1 _ (List.mem_of_getElem? (i := 1) rfl))
  · exact Or.inl (in_seN_1 _ (List.mem_of_getElem? (i := 8) rfl))
  · exact Or.inl (in_seN_1 _ (List.mem_of_getElem? (i := 16) rfl))
  · exact Or.inl (in_seN_2 _ (List.mem_of_getElem? (i := 1) rfl))
  · exact Or.inl (in_seN_2 _ (List.mem_of_getElem? (i := 11) rfl))
  · exact Or.inl (in_seN_2 _ (List.mem_of_getElem? (i := 22) rfl))
  · exact Or.inl (in_seN_3 _ (List.mem_of_getElem? (i := 10) rfl))
  · exact Or.inl (in_seN_3 _ (List.mem_of_getElem? (i := 23) rfl))
  · exact Or.inl (in_seN_4 _ (List.mem_of_getElem? (i := 13) rfl))
  · exact Or.inl (in_seN_5 _ (List.mem_of_getElem? (i := 4) rfl))
theorem str_m6_5 : ∀ j : Nat, j < 17 → 5 ≠ j → (Cond.not (Cond.eq (tmS 5) (tmS j))) ∈ (flatC (Jvm.Cond.and given_1 narrow_1)) ∨ (Cond.not (Cond.eq (tmS j) (tmS 5))) ∈ (flatC (Jvm.Cond.and given_1 narrow_1)) := by
  intro j hj hne
  rcases (show j = 0 ∨ j = 1 ∨ j = 2 ∨ j = 3 ∨ j = 4 ∨ j = 5 ∨ j = 6 ∨ j = 7 ∨ j = 8 ∨ j = 9 ∨ j = 10 ∨ j = 11 ∨ j = 12 ∨ j = 13 ∨ j = 14 ∨ j = 15 ∨ j = 16 by omega) with rfl | rfl | rfl | rfl | rfl | rfl | rfl | rfl | rfl | rfl | rfl | rfl | rfl | rfl | rfl | rfl | rfl
  · exact Or.inr (in_seN_0 _ (List.mem_of_getElem? (i := 10) rfl))
  · exact Or.inr (in_seN_0 _ (List.mem_of_getElem? (i := 11) rfl))
  · exact Or.inr (in_seN_0 _ (List.mem_of_getElem? (i := 12) rfl))
  · exact Or.inr (in_seN_0 _ (List.mem_of_getElem? (i := 13) rfl))
  · exact Or.inr (in_seN_0 _ (List.mem_of_getElem? (i := 14) rfl))
  · exact absurd rfl hne
  · exact Or.inl (in_seN_0 _ (List.mem_of_getElem? (i := 20) rfl))
  · exact Or.inl (in_seN_1 _ (List.mem_of_getElem? (i := 2) rfl))
  · exact Or.inl (in_seN_1 _ (List.mem_of_getElem? (i := 9) rfl))
  · exact Or.inl (in_seN_1 _ (List.mem_of_getElem? (i := 17) rfl))
  · exact Or.inl (in_seN_2 _ (List.mem_of_getElem? (i := 2) rfl))
  · exact Or.inl (in_seN_2 _ (List.mem_of_getElem? (i := 12) rfl))
  · exact Or.inl (in_seN_2 _ (List.mem_of_getElem? (i := 23) rfl))
  · exact Or.inl (in_seN_3 _ (List.mem_of_getElem? (i := 11) rfl))
  · exact Or.inl (in_seN_4 _ (List.mem_of_getElem? (i := 0) rfl))
  · exact Or.inl (in_seN_4 _ (List.mem_of_getElem? (i := 14) rfl))
  · exact Or.inl (in_seN_5 _ (List.mem_of_getElem? (i := 5) rfl))
theorem str_m6_6 : ∀ j : Nat, j < 17 → 6 ≠ j → (Cond.not (Cond.eq (tmS 6) (tmS j))) ∈ (flatC (Jvm.Cond.and given_1 narrow_1)) ∨ (Cond.not (Cond.eq (tmS j) (tmS 6))) ∈ (flatC (Jvm.Cond.and given_1 narrow_1)) := by
  intro j hj hne
  rcases (show j = 0 ∨ j = 1 ∨ j = 2 ∨ j = 3 ∨ j = 4 ∨ j = 5 ∨ j = 6 ∨ j = 7 ∨ j = 8 ∨ j = 9 ∨ j = 10 ∨ j = 11 ∨ j = 12 ∨ j = 13 ∨ j = 14 ∨ j = 15 ∨ j = 16 by omega) with rfl | rfl | rfl | rfl | rfl | rfl | rfl | rfl | rfl | rfl | rfl | rfl | rfl | rfl | rfl | rfl | rfl
  · exact Or.inr (in_seN_0 _ (List.mem_of_getElem? (i := 15) rfl))
  · exact Or.inr (in_seN_0 _ (List.mem_of_getElem? (i := 16) rfl))
  · exact Or.inr (in_seN_0 _ (List.mem_of_getElem? (i := 17) rfl))
  · exact Or.inr (in_seN_0 _ (List.mem_of_getElem? (i := 18) rfl))
  · exact Or.inr (in_seN_0 _ (List.mem_of_getElem? (i := 19) rfl))
  · exact Or.inr (in_seN_0 _ (List.mem_of_getElem? (i := 20) rfl))
  · exact absurd rfl hne
  · exact Or.inl (in_seN_1 _ (List.mem_of_getElem? (i := 3) rfl))
  · exact Or.inl (in_seN_1 _ (List.mem_of_getElem? (i := 10) rfl))
  · exact Or.inl (in_seN_1 _ (List.mem_of_getElem? (i := 18) rfl))
  · exact Or.inl (in_seN_2 _ (List.mem_of_getElem? (i := 3) rfl))
  · exact Or.inl (in_seN_2 _ (List.mem_of_getElem? (i := 13) rfl))
  · exact Or.inl (in_seN_3 _ (List.mem_of_getElem? (i := 0) rfl))
  · exact Or.inl (in_seN_3 _ (List.mem_of_getElem? (i := 12) rfl))
  · exact Or.inl (in_seN_4 _ (List.mem_of_getElem? (i := 1) rfl))
  · exact Or.inl (in_seN_4 _ (List.mem_of_getElem? (i := 15) rfl))
  · exact Or.inl (in_seN_5 _ (List.mem_of_getElem? (i := 6) rfl))
theorem str_m6_7 : ∀ j : Nat, j < 17 → 7 ≠ j → (Cond.not (Cond.eq (tmS 7) (tmS j))) ∈ (flatC (Jvm.Cond.and given_1 narrow_1)) ∨ (Cond.not (Cond.eq (tmS j) (tmS 7))) ∈ (flatC (Jvm.Cond.and given_1 narrow_1)) := by
  intro j hj hne
  rcases (show j = 0 ∨ j = 1 ∨ j = 2 ∨ j = 3 ∨ j = 4 ∨ j = 5 ∨ j = 6 ∨ j = 7 ∨ j = 8 ∨ j = 9 ∨ j = 10 ∨ j = 11 ∨ j = 12 ∨ j = 13 ∨ j = 14 ∨ j = 15 ∨ j = 16 by omega) with rfl | rfl | rfl | rfl | rfl | rfl | rfl | rfl | rfl | rfl | rfl | rfl | rfl | rfl | rfl | rfl | rfl
  · exact Or.inr (in_seN_0 _ (List.mem_of_getElem? (i := 21) rfl))
  · exact Or.inr (in_seN_0 _ (List.mem_of_getElem? (i := 22) rfl))
  · exact Or.inr (in_seN_0 _ (List.mem_of_getElem? (i := 23) rfl))
  · exact Or.inr (in_seN_1 _ (List.mem_of_getElem? (i := 0) rfl))
  · exact Or.inr (in_seN_1 _ (List.mem_of_getElem? (i := 1) rfl))
  · exact Or.inr (in_seN_1 _ (List.mem_of_getElem? (i := 2) rfl))
  · exact Or.inr (in_seN_1 _ (List.mem_of_getElem? (i := 3) rfl))
  · exact absurd rfl hne
  · exact Or.inl (in_seN_1 _ (List.mem_of_getElem? (i := 11) rfl))
  · exact Or.inl (in_seN_1 _ (List.mem_of_getElem? (i := 19) rfl))
  · exact Or.inl (in_seN_2 _ (List.mem_of_getElem? (i := 4) rfl))
  · exact Or.inl (in_seN_2 _ (List.mem_of_getElem? (i := 14) rfl))
  · exact Or.inl (in_seN_3 _ (List.mem_of_getElem? (i := 1) rfl))
  · exact Or.inl (in_seN_3 _ (List.mem_of_getElem? (i := 13) rfl))
  · exact Or.inl (in_seN_4 _ (List.mem_of_getElem? (i := 2) rfl))
  · exact Or.inl (in_seN_4 _ (List.mem_of_getElem? (i := 16) rfl))
  · exact Or.inl (in_seN_5 _ (List.mem_of_getElem? (i := 7) rfl))
theorem str_m6_8 : ∀ j : Nat, j < 17 → 8 ≠ j → (Cond.not (Cond.eq (tmS 8) (tmS j))) ∈ (flatC (Jvm.Cond.and given_1 narrow_1)) ∨ (Cond.not (Cond.eq (tmS j) (tmS 8))) ∈ (flatC (Jvm.Cond.and given_1 narrow_1)) := by
  intro j hj hne
  rcases (show j = 0 ∨ j = 1 ∨ j = 2 ∨ j = 3 ∨ j = 4 ∨ j = 5 ∨ j = 6 ∨ j = 7 ∨ j = 8 ∨ j = 9 ∨ j = 10 ∨ j = 11 ∨ j = 12 ∨ j = 13 ∨ j = 14 ∨ j = 15 ∨ j = 16 by omega) with rfl | rfl | rfl | rfl | rfl | rfl | rfl | rfl | rfl | rfl | rfl | rfl | rfl | rfl | rfl | rfl | rfl
  · exact Or.inr (in_seN_1 _ (List.mem_of_getElem? (i := 4) rfl))
  · exact Or.inr (in_seN_1 _ (List.mem_of_getElem? (i := 5) rfl))
  · exact Or.inr (in_seN_1 _ (List.mem_of_getElem? (i := 6) rfl))
  · exact Or.inr (in_seN_1 _ (List.mem_of_getElem? (i := 7) rfl))
  · exact Or.inr (in_seN_1 _ (List.mem_of_getElem? (i := 8) rfl))
  · exact Or.inr (in_seN_1 _ (List.mem_of_getElem? (i := 9) rfl))
  · exact Or.inr (in_seN_1 _ (List.mem_of_getElem? (i := 10) rfl))
  · exact Or.inr (in_seN_1 _ (List.mem_of_getElem? (i := 11) rfl))
  · exact absurd rfl hne
  · exact Or.inl (in_seN_1 _ (List.mem_of_getElem? (i := 20) rfl))
  · exact Or.inl (in_seN_2 _ (List.mem_of_getElem? (i := 5) rfl))
  · exact Or.inl (in_seN_2 _ (List.mem_of_getElem? (i := 15) rfl))
  · exact Or.inl (in_seN_3 _ (List.mem_of_getElem? (i := 2) rfl))
  · exact Or.inl (in_seN_3 _ (List.mem_of_getElem? (i := 14) rfl))
  · exact Or.inl (in_seN_4 _ (List.mem_of_getElem? (i := 3) rfl))
  · exact Or.inl (in_seN_4 _ (List.mem_of_getElem? (i := 17) rfl))
  · exact Or.inl (in_seN_5 _ (List.mem_of_getElem? (i := 8) rfl))
theorem str_m6_9 : ∀ j : Nat, j < 17 → 9 ≠ j → (Cond.not (Cond.eq (tmS 9) (tmS j))) ∈ (flatC (Jvm.Cond.and given_1 narrow_1)) ∨ (Cond.not (Cond.eq (tmS j) (tmS 9))) ∈ (flatC (Jvm.Cond.and given_1 narrow_1)) := by
  intro j hj hne
  rcases (show j = 0 ∨ j = 1 ∨ j = 2 ∨ j = 3 ∨ j = 4 ∨ j = 5 ∨ j = 6 ∨ j = 7 ∨ j = 8 ∨ j = 9 ∨ j = 10 ∨ j = 11 ∨ j = 12 ∨ j = 13 ∨ j = 14 ∨ j = 15 ∨ j = 16 by omega) with rfl | rfl | rfl | rfl | rfl | rfl | rfl | rfl | rfl | rfl | rfl | rfl | rfl | rfl | rfl | rfl | rfl
  · exact Or.inr (in_seN_1 _ (List.mem_of_getElem? (i := 12) rfl))
  · exact Or.inr (in_seN_1 _ (List.mem_of_getElem? (i := 13) rfl))
  · exact Or.inr (in_seN_1 _ (List.mem_of_getElem? (i := 14) rfl))
  · exact Or.inr (in_seN_1 _ (List.mem_of_getElem? (i := 15) rfl))
  · exact Or.inr (in_seN_1 _ (List.mem_of_getElem? (i := 16) rfl))
  · exact Or.inr (in_seN_1 _ (List.mem_of_getElem? (i := 17) rfl))
  · exact Or.inr (in_seN_1 _ (List.mem_of_getElem? (i := 18) rfl))
  · exact Or.inr (in_seN_1 _ (List.mem_of_getElem? (i := 19) rfl))
  · exact Or.inr (in_seN_1 _ (List.mem_of_getElem? (i := 20) rfl))
  · exact absurd rfl hne
  · exact Or.inl (in_seN_2 _ (List.mem_of_getElem? (i := 6) rfl))
  · exact Or.inl (in_seN_2 _ (List.mem_of_getElem? (i := 16) rfl))
  · exact Or.inl (in_seN_3 _ (List.mem_of_getElem? (i := 3) rfl))
  · exact Or.inl (in_seN_3 _ (List.mem_of_getElem? (i := 15) rfl))
  · exact Or.inl (in_seN_4 _ (List.mem_of_getElem? (i := 4) rfl))
  · exact Or.inl (in_seN_4 _ (List.mem_of_getElem? (i := 18) rfl))
  · exact Or.inl (in_seN_5 _ (List.mem_of_getElem? (i := 9) rfl))
theorem str_m6_10 : ∀ j : Nat, j < 17 → 10 ≠ j → (Cond.not (Cond.eq (tmS 10) (tmS j))) ∈ (flatC (Jvm.Cond.and given_1 narrow_1)) ∨ (Cond.not (Cond.eq (tmS j) (tmS 10))) ∈ (flatC (Jvm.Cond.and given_1 narrow_1)) := by
  intro j hj hne
  rcases (show j = 0 ∨ j = 1 ∨ j = 2 ∨ j = 3 ∨ j = 4 ∨ j = 5 ∨ j = 6 ∨ j = 7 ∨ j = 8 ∨ j = 9 ∨ j = 10 ∨ j = 11 ∨ j = 12 ∨ j = 13 ∨ j = 14 ∨ j = 15 ∨ j = 16 by omega) with rfl | rfl | rfl | rfl | rfl | rfl | rfl | rfl | rfl | rfl | rfl | rfl | rfl | rfl | rfl | rfl | rfl
  · exact Or.inr (in_seN_1 _ (List.mem_of_getElem? (i := 21) rfl))
  · exact Or.inr (in_seN_1 _ (List.mem_of_getElem? (i := 22) rfl))
  · exact Or.inr (in_seN_1 _ (List.mem_of_getElem? (i := 23) rfl))
  · exact Or.inr (in_seN_2 _ (List.mem_of_getElem? (i := 0) rfl))
  · exact Or.inr (in_seN_2 _ (List.mem_of_getElem? (i := 1) rfl))
  · exact Or.inr (in_seN_2 _ (List.mem_of_getElem? (i := 2) rfl))
  · exact Or.inr (in_seN_2 _ (List.mem_of_getElem? (i := 3) rfl))
  · exact Or.inr (in_seN_2 _ (List.mem_of_getElem? (i := 4) rfl))
  · exact Or.inr (in_seN_2 _ (List.mem_of_getElem? (i := 5) rfl))
  · exact Or.inr (in_seN_2 _ (List.mem_of_getElem? (i := 6) rfl))
  · exact absurd rfl hne
  · exact Or.inl (in_seN_2 _ (List.mem_of_getElem? (i := 17) rfl))
  · exact Or.inl (in_seN_3 _ (List.mem_of_getElem? (i := 4) rfl))
  · exact Or.inl (in_seN_3 _ (List.mem_of_getElem? (i := 16) rfl))
  · exact Or.inl (in_seN_4 _ (List.mem_of_getElem? (i := 5) rfl))
  · exact Or.inl (in_seN_4 _ (List.mem_of_getElem? (i := 19) rfl))
  · exact Or.inl (in_seN_5 _ (List.mem_of_getElem? (i := 10) rfl))
theorem str_m6_11 : ∀ j : Nat, j < 17 → 11 ≠ j → (Cond.not (Cond.eq (tmS 11) (tmS j))) ∈ (flatC (Jvm.Cond.and given_1 narrow_1)) ∨ (Cond.not (Cond.eq (tmS j) (tmS 11))) ∈ (flatC (Jvm.Cond.and given_1 narrow_1)) := by
  intro j hj hne
  rcases (show j = 0 ∨ j = 1 ∨ j = 2 ∨ j = 3 ∨ j = 4 ∨ j = 5 ∨ j = 6 ∨ j = 7 ∨ j = 8 ∨ j = 9 ∨ j = 10 ∨ j = 11 ∨ j = 12 ∨ j = 13 ∨ j = 14 ∨ j = 15 ∨ j = 16 by omega) with rfl | rfl | rfl | rfl | rfl | rfl | rfl | rfl | rfl | rfl | rfl | rfl | rfl | rfl | rfl | rfl | rfl
  · exact Or.inr (in_seN_2 _ (List.mem_of_getElem? (i := 7) rfl))
  · exact Or.inr (in_seN_2 _ (List.mem_of_getElem? (i := 8) rfl))
  · exact Or.inr (in_seN_2 _ (List.mem_of_getElem? (i := 9) rfl))
  · exact Or.inr (in_seN_2 _ (List.mem_of_getElem? (i := 10) rfl))
  · exact Or.inr (in_seN_2 _ (List.mem_of_getElem? (i := 11) rfl))
  · exact Or.inr (in_seN_2 _ (List.mem_of_getElem? (i := 12) rfl))
  · exact Or.inr (in_seN_2 _ (List.mem_of_getElem? (i := 13) rfl))
  · exact Or.inr (in_seN_2 _ (List.mem_of_getElem? (i := 14) rfl))
  · exact Or.inr (in_seN_2 _ (List.mem_of_getElem? (i := 15) rfl))
  · exact Or.inr (in_seN_2 _ (List.mem_of_getElem? (i := 16) rfl))
  · exact Or.inr (in_seN_2 _ (List.mem_of_getElem? (i := 17) rfl))
  · exact absurd rfl hne
  · exact Or.inl (in_seN_3 _ (List.mem_of_getElem? (i := 5) rfl))
  · exact Or.inl (in_seN_3 _ (List.mem_of_getElem? (i := 17) rfl))
  · exact Or.inl (in_seN_4 _ (List.mem_of_getElem? (i := 6) rfl))
  · exact Or.inl (in_seN_4 _ (List.mem_of_getElem? (i := 20) rfl))
  · exact Or.inl (in_seN_5 _ (List.mem_of_getElem? (i := 11) rfl))
theorem str_m6_12 : ∀ j : Nat, j < 17 → 12 ≠ j → (Cond.not (Cond.eq (tmS 12) (tmS j))) ∈ (flatC (Jvm.Cond.and given_1 narrow_1)) ∨ (Cond.not (Cond.eq (tmS j) (tmS 12))) ∈ (flatC (Jvm.Cond.and given_1 narrow_1)) := by
  intro j hj hne
  rcases (show j = 0 ∨ j = 1 ∨ j = 2 ∨ j = 3 ∨ j = 4 ∨ j = 5 ∨ j = 6 ∨ j = 7 ∨ j = 8 ∨ j = 9 ∨ j = 10 ∨ j = 11 ∨ j = 12 ∨ j = 13 ∨ j = 14 ∨ j = 15 ∨ j = 16 by omega) with rfl | rfl | rfl | rfl | rfl | rfl | rfl | rfl | rfl | rfl | rfl | rfl | rfl | rfl | rfl | rfl | rfl
  · exact Or.inr (in_seN_2 _ (List.mem_of_getElem? (i := 18) rfl))
  · exact Or.inr (in_seN_2 _ (List.mem_of_getElem? (i := 19) rfl))
  · exact Or.inr (in_seN_2 _ (List.mem_of_getElem? (i := 20) rfl))
  · exact Or.inr (in_seN_2 _ (List.mem_of_getElem? (i := 21) rfl))
  · exact Or.inr (in_seN_2 _ (List.mem_of_getElem? (i := 22) rfl))
  · exact Or.inr (in_seN_2 _ (List.mem_of_getElem? (i := 23) rfl))
  · exact Or.inr (in_seN_3 _ (List.mem_of_getElem? (i := 0) rfl))
  · exact Or.inr (in_seN_3 _ (List.mem_of_getElem? (i := 1) rfl))
  · exact Or.inr (in_seN_3 _ (List.mem_of_getElem? (i := 2) rfl))
  · exact Or.inr (in_seN_3 _ (List.mem_of_getElem? (i := 3) rfl))
  · exact Or.inr (in_seN_3 _ (List.mem_of_getElem? (i := 4) rfl))
  · exact Or.inr (in_seN_3 _ (List.mem_of_getElem? (i := 5) rfl))
  · exact absurd rfl hne
  · exact Or.inl (in_seN_3 _ (List.mem_of_getElem? (i := 18) rfl))
  · exact Or.inl (in_seN_4 _ (List.mem_of_getElem? (i := 7) rfl))
  · exact Or.inl (in_seN_4 _ (List.mem_of_getElem? (i := 21) rfl))
  · exact Or.inl (in_seN_5 _ (List.mem_of_getElem? (i := 12) rfl))
theorem str_m6_13 : ∀ j : Nat, j < 17 → 13 ≠ j → (Cond.not (Cond.eq (tmS 13) (tmS j))) ∈ (flatC (Jvm.Cond.and given_1 narrow_1)) ∨ (Cond.not (Cond.eq (tmS j) (tmS 13))) ∈ (flatC (Jvm.Cond.and given_1 narrow_1)) := by
  intro j hj hne
  rcases (show j = 0 ∨ j = 1 ∨ j = 2 ∨ j = 3 ∨ j = 4 ∨ j = 5 ∨ j = 6 ∨ j = 7 ∨ j = 8 ∨ j = 9 ∨ j = 10 ∨ j = 11 ∨ j = 12 ∨ j = 13 ∨ j = 14 ∨ j = 15 ∨ j = 16 by omega) with rfl | rfl | rfl | rfl | rfl | rfl | rfl | rfl | rfl | rfl | rfl | rfl | rfl | rfl | rfl | rfl | rfl
  · exact Or.inr (in_seN_3 _ (List.mem_of_getElem? (i := 6) rfl))
  · exact Or.inr (in_seN_3 _ (List.mem_of_getElem? (i := 7) rfl))
  · exact Or.inr (in_seN_3 _ (List.mem_of_getElem? (i := 8) rfl))
  · exact Or.inr (in_seN_3 _ (List.mem_of_getElem? (i := 9) rfl))
  · exact Or.inr (in_seN_3 _ (List.mem_of_getElem? (i := 10) rfl))
  · exact Or.inr (in_seN_3 _ (List.mem_of_getElem? (i := 11) rfl))
  · exact Or.inr (in_seN_3 _ (List.mem_of_getElem? (i := 12) rfl))
  · exact Or.inr (in_seN_3 _ (List.mem_of_getElem? (i := 13) rfl))
  · exact Or.inr (in_seN_3 _ (List.mem_of_getElem? (i := 14) rfl))
  · exact Or.inr (in_seN_3 _ (List.mem_of_getElem? (i := 15) rfl))
  · exact Or.inr (in_seN_3 _ (List.mem_of_getElem? (i := 16) rfl))
  · exact Or.inr (in_seN_3 _ (List.mem_of_getElem? (i := 17) rfl))
  · exact Or.inr (in_seN_3 _ (List.mem_of_getElem? (i := 18) rfl))
  · exact absurd rfl hne
  · exact Or.inl (in_seN_4 _ (List.mem_of_getElem? (i := 8) rfl))
  · exact Or.inl (in_seN_4 _ (List.mem_of_getElem? (i := 22) rfl))
  · exact Or.inl (in_seN_5 _ (List.mem_of_getElem? (i := 13) rfl))
theorem str_m6_14 : ∀ j : Nat, j < 17 → 14 ≠ j → (Cond.not (Cond.eq (tmS 14) (tmS j))) ∈ (flatC (Jvm.Cond.and given_1 narrow_1)) ∨ (Cond.not (Cond.eq (tmS j) (tmS 14))) ∈ (flatC (Jvm.Cond.and given_1 narrow_1)) := by
  intro j hj hne
  rcases (show j = 0 ∨ j = 1 ∨ j = 2 ∨ j = 3 ∨ j = 4 ∨ j = 5 ∨ j = 6 ∨ j = 7 ∨ j = 8 ∨ j = 9 ∨ j = 10 ∨ j = 11 ∨ j = 12 ∨ j = 13 ∨ j = 14 ∨ j = 15 ∨ j = 16 by omega) with rfl | rfl | rfl | rfl | rfl | rfl | rfl | rfl | rfl | rfl | rfl | rfl | rfl | rfl | rfl | rfl | rfl
  · exact Or.inr (in_seN_3 _ (List.mem_of_getElem? (i := 19) rfl))
  · exact Or.inr (in_seN_3 _ (List.mem_of_getElem? (i := 20) rfl))
  · exact Or.inr (in_seN_3 _ (List.mem_of_getElem? (i := 21) rfl))
  · exact Or.inr (in_seN_3 _ (List.mem_of_getElem? (i := 22) rfl))
  · exact Or.inr (in_seN_3 _ (List.mem_of_getElem? (i := 23) rfl))
  · exact Or.inr (in_seN_4 _ (List.mem_of_getElem? (i := 0) rfl))
  · exact Or.inr (in_seN_4 _ (List.mem_of_getElem? (i := 1) rfl))
  · exact Or.inr (in_seN_4 _ (List.mem_of_getElem? (i := 2) rfl))
  · exact Or.inr (in_seN_4 _ (List.mem_of_getElem? (i := 3) rfl))
  · exact Or.inr (in_seN_4 _ (List.mem_of_getElem? (i := 4) rfl))
  · exact Or.inr (in_seN_4 _ (List.mem_of_getElem? (i := 5) rfl))
  · exact Or.inr (in_seN_4 _ (List.mem_of_getElem? (i := 6) rfl))
  · exact Or.inr (in_seN_4 _ (List.mem_of_getElem? (i := 7) rfl))
  · exact Or.inr (in_seN_4 _ (List.mem_of_getElem? (i := 8) rfl))
  · exact absurd rfl hne
  · exact Or.inl (in_seN_4 _ (List.mem_of_getElem? (i := 23) rfl))
  · exact Or.inl (in_seN_5 _ (List.mem_of_getElem? (i := 14) rfl))
theorem str_m6_15 : ∀ j : Nat, j < 17 → 15 ≠ j → (Cond.not (Cond.eq (tmS 15) (tmS j))) ∈ (flatC (Jvm.Cond.and given_1 narrow_1)) ∨ (Cond.not (Cond.eq (tmS j) (tmS 15))) ∈ (flatC (Jvm.Cond.and given_1 narrow_1)) := by
  intro j hj hne
  rcases (show j = 0 ∨ j = 1 ∨ j = 2 ∨ j = 3 ∨ j = 4 ∨ j = 5 ∨ j = 6 ∨ j = 7 ∨ j = 8 ∨ j = 9 ∨ j = 10 ∨ j = 11 ∨ j = 12 ∨ j = 13 ∨ j = 14 ∨ j = 15 ∨ j = 16 by omega) with rfl | rfl | rfl | rfl | rfl | rfl | rfl | rfl | rfl | rfl | rfl | rfl | rfl | rfl | rfl | rfl | rfl
  · exact Or.inr (in_seN_4 _ (List.mem_of_getElem? (i := 9) rfl))
  · exact Or.inr (in_seN_4 _ (List.mem_of_getElem? (i := 10) rfl))
  · exact Or.inr (in_seN_4 _ (List.mem_of_getElem? (i := 11) rfl))
  · exact Or.inr (in_seN_4 _ (List.mem_of_getElem? (i := 12) rfl))
  · exact Or.inr (in_seN_4 _ (List.mem_of_getElem? (i := 13) rfl))
  · exact Or.inr (in_seN_4 _ (List.mem_of_getElem? (i := 14) rfl))
  · exact Or.inr (in_seN_4 _ (List.mem_of_getElem? (i := 15) rfl))
  · exact Or.inr (in_seN_4 _ (List.mem_of_getElem? (i := 16) rfl))
  · exact Or.inr (in_seN_4 _ (List.mem_of_getElem? (i := 17) rfl))
  · exact Or.inr (in_seN_4 _ (List.mem_of_getElem? (i := 18) rfl))
  · exact Or.inr (in_seN_4 _ (List.mem_of_getElem? (i := 19) rfl))
  · exact Or.inr (in_seN_4 _ (List.mem_of_getElem? (i := 20) rfl))
  · exact Or.inr (in_seN_4 _ (List.mem_of_getElem? (i := 21) rfl))
  · exact Or.inr (in_seN_4 _ (List.mem_of_getElem? (i := 22) rfl))
  · exact Or.inr (in_seN_4 _ (List.mem_of_getElem? (i := 23) rfl))
  · exact absurd rfl hne
  · exact Or.inl (in_seN_5 _ (List.mem_of_getElem? (i := 15) rfl))
theorem str_m6_16 : ∀ j : Nat, j < 17 → 16 ≠ j → (Cond.not (Cond.eq (tmS 16) (tmS j))) ∈ (flatC (Jvm.Cond.and given_1 narrow_1)) ∨ (Cond.not (Cond.eq (tmS j) (tmS 16))) ∈ (flatC (Jvm.Cond.and given_1 narrow_1)) := by
  intro j hj hne
  rcases (show j = 0 ∨ j = 1 ∨ j = 2 ∨ j = 3 ∨ j = 4 ∨ j = 5 ∨ j = 6 ∨ j = 7 ∨ j = 8 ∨ j = 9 ∨ j = 10 ∨ j = 11 ∨ j = 12 ∨ j = 13 ∨ j = 14 ∨ j = 15 ∨ j = 16 by omega) with rfl | rfl | rfl | rfl | rfl | rfl | rfl | rfl | rfl | rfl | rfl | rfl | rfl | rfl | rfl | rfl | rfl
  · exact Or.inr (in_seN_5 _ (List.mem_of_getElem? (i := 0) rfl))
  · exact Or.inr (in_seN_5 _ (List.mem_of_getElem? (i := 1) rfl))
  · exact Or.inr (in_seN_5 _ (List.mem_of_getElem? (i := 2) rfl))
  · exact Or.inr (in_seN_5 _ (List.mem_of_getElem? (i := 3) rfl))
  · exact Or.inr (in_seN_5 _ (List.mem_of_getElem? (i := 4) rfl))
  · exact Or.inr (in_seN_5 _ (List.mem_of_getElem? (i := 5) rfl))
  · exact Or.inr (in_seN_5 _ (List.mem_of_getElem? (i := 6) rfl))
  · exact Or.inr (in_seN_5 _ (List.mem_of_getElem? (i := 7) rfl))
  · exact Or.inr (in_seN_5 _ (List.mem_of_getElem? (i := 8) rfl))
  · exact Or.inr (in_seN_5 _ (List.mem_of_getElem? (i := 9) rfl))
  · exact Or.inr (in_seN_5 _ (List.mem_of_getElem? (i := 10) rfl))
  · exact Or.inr (in_seN_5 _ (List.mem_of_getElem? (i := 11) rfl))
  · exact Or.inr (in_seN_5 _ (List.mem_of_getElem? (i := 12) rfl))
  · exact Or.inr (in_seN_5 _ (List.mem_of_getElem? (i := 13) rfl))
  · exact Or.inr (in_seN_5 _ (List.mem_of_getElem? (i := 14) rfl))
  · exact Or.inr (in_seN_5 _ (List.mem_of_getElem? (i := 15) rfl))
  · exact absurd rfl hne
theorem str_m6 : ∀ i : Nat, i < 17 → ∀ j : Nat, j < 17 → i ≠ j → (Cond.not (Cond.eq (tmS i) (tmS j))) ∈ (flatC (Jvm.Cond.and given_1 narrow_1)) ∨ (Cond.not (Cond.eq (tmS j) (tmS i))) ∈ (flatC (Jvm.Cond.and given_1 narrow_1)) := by
  intro i hi
  rcases (show i = 0 ∨ i = 1 ∨ i = 2 ∨ i = 3 ∨ i = 4 ∨ i = 5 ∨ i = 6 ∨ i = 7 ∨ i = 8 ∨ i = 9 ∨ i = 10 ∨ i = 11 ∨ i = 12 ∨ i = 13 ∨ i = 14 ∨ i = 15 ∨ i = 16 by omega) with rfl | rfl | rfl | rfl | rfl | rfl | rfl | rfl | rfl | rfl | rfl | rfl | rfl | rfl | rfl | rfl | rfl
  · exact str_m6_0
  · exact str_m6_1
  · exact str_m6_2
  · exact str_m6_3
  · exact str_m6_4
  · exact str_m6_5
  · exact str_m6_6
  · exact str_m6_7
  · exact str_m6_8
  · exact str_m6_9
  · exact str_m6_10
  · exact str_m6_11
  · exact str_m6_12
  · exact str_m6_13
  · exact str_m6_14
  · exact str_m6_15
  · exact str_m6_16
set_option maxRecDepth 100000 in
set_option maxHeartbeats 4000000 in
theorem law_str {s : State} {b : Nat} {A : Nat → Prop} (hgv : (Jvm.Cond.and given_1 narrow_1).before #[Value.ref b] s = true) (hA : ∀ a : Nat, a < s.heap.size → ¬ A a) : ∃ adK adV : Nat → Nat, vk_S 17 sLen sByt adK adV A s s.heap ∧ ∀ i : Nat, i < 17 → (tmS i).eval #[Value.ref b] s none [] s = some (.ref (adK i)) := by
  have hs := flat_of_before _ hgv
  refine vk_Sof (tm := tmS) (fun i hi => s_len hi) (fun i hi => hs _ (str_m1 i hi)) (fun i hi => hs _ (str_m2 i hi)) (fun i hi => hs _ (str_m3 i hi)) (fun i hi => hs _ (str_m4 i hi)) (fun i hi j hj => hs _ (str_m5 i hi j hj)) (fun i j hi hj hne => ?_) hA
  rcases str_m6 i hi j hj hne with h | h
  · exact Or.inl (hs _ h)
  · exact Or.inr (hs _ h)
