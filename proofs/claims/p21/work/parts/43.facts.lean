set_option maxRecDepth 20000 in
theorem nest_in : ∀ w ∈ nestw, w ∈ lw_tbl := mem_r _ [84, 143, 160, 419, 421, 166, 191, 220, 802, 694, 703, 702, 853, 723, 791, 783, 638, 740, 741, 742, 663, 792, 910] (by decide +kernel)
def tmS (i : Nat) : Term := .string (sOwn i) (sIdx i)
set_option maxRecDepth 100000 in
set_option maxHeartbeats 4000000 in
theorem str_m1 : ∀ i : Nat, i < 17 → (Cond.exactly (tmS i) "java/lang/String") ∈ (flatC (Jvm.Cond.and given_1 narrow_1)) := by decide +kernel
set_option maxRecDepth 100000 in
set_option maxHeartbeats 4000000 in
theorem str_m2 : ∀ i : Nat, i < 17 → (Cond.eq (.field (tmS i) "java/lang/String" "coder" "B") (.int 0)) ∈ (flatC (Jvm.Cond.and given_1 narrow_1)) := by decide +kernel
set_option maxRecDepth 100000 in
set_option maxHeartbeats 4000000 in
theorem str_m3 : ∀ i : Nat, i < 17 → (Cond.arrayOf (.field (tmS i) "java/lang/String" "value" "[B") .byte) ∈ (flatC (Jvm.Cond.and given_1 narrow_1)) := by decide +kernel
set_option maxRecDepth 100000 in
set_option maxHeartbeats 4000000 in
theorem str_m4 : ∀ i : Nat, i < 17 → (Cond.eq (.length (.field (tmS i) "java/lang/String" "value" "[B")) (.int (Int32.ofNat (sLen.getD i 0)))) ∈ (flatC (Jvm.Cond.and given_1 narrow_1)) := by decide +kernel
