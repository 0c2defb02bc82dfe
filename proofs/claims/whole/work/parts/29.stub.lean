theorem xheads : ∀ a, xisM a = true → xmfb a = true := sorry
theorem xalls : ∀ k, k < 327 → xall k = true := sorry
theorem xinst {ci : Nat} (h : ci < 13) : Cond.instantiable (xRR ci) (xN ci) ∈ lw_tbl := sorry
theorem xarrA {t : Nat} (h : 20 ≤ t ∧ t ≤ 23) : Cond.arrayClass (newarray.typeOf (xat t)) ∈ lw_tbl := sorry
theorem xarrO {t : Nat} (h : 24 ≤ t ∧ t ≤ 26) : Cond.arrayOver (.object (xan t)) ∈ lw_tbl := sorry
def xtm (i : Nat) : Term := .string (xstr.getD i ("", 0, "")).1 (xstr.getD i ("", 0, "")).2.1
theorem xt_ex : ∀ i : Nat, i < 23 → Cond.exactly (xtm i) "java/lang/String" ∈ flatC (Jvm.Cond.and given_1 narrow_1) := sorry
theorem xt_co : ∀ i : Nat, i < 23 → Cond.eq (.field (xtm i) "java/lang/String" "coder" "B") (.int 0) ∈ flatC (Jvm.Cond.and given_1 narrow_1) := sorry
theorem xt_ar : ∀ i : Nat, i < 23 → Cond.arrayOf (.field (xtm i) "java/lang/String" "value" "[B") .byte ∈ flatC (Jvm.Cond.and given_1 narrow_1) := sorry
theorem xt_le : ∀ i : Nat, i < 23 → Cond.eq (.length (.field (xtm i) "java/lang/String" "value" "[B")) (.int (Int32.ofNat (xlen.getD i 0))) ∈ flatC (Jvm.Cond.and given_1 narrow_1) := sorry
theorem xt_el0 : ∀ j : Nat, j < 70 → Cond.eq (.elem (.field (xtm 0) "java/lang/String" "value" "[B") (.int (Int32.ofNat j))) (.int ((xtx.getD 0 []).getD j 0)) ∈ flatC (Jvm.Cond.and given_1 narrow_1) := sorry
theorem xt_el1 : ∀ j : Nat, j < 62 → Cond.eq (.elem (.field (xtm 0) "java/lang/String" "value" "[B") (.int (Int32.ofNat (70 + j)))) (.int ((xtx.getD 0 []).getD (70 + j) 0)) ∈ flatC (Jvm.Cond.and given_1 narrow_1) := sorry
theorem xt_el2 : ∀ i : Nat, i < 22 → ∀ j : Nat, j < xlen.getD (i + 1) 0 → Cond.eq (.elem (.field (xtm (i + 1)) "java/lang/String" "value" "[B") (.int (Int32.ofNat j))) (.int ((xtx.getD (i + 1) []).getD j 0)) ∈ flatC (Jvm.Cond.and given_1 narrow_1) := sorry
theorem xt_ne : ∀ i : Nat, i < 23 → ∀ j : Nat, j < i → Cond.not (Cond.eq (xtm j) (xtm i)) ∈ flatC (Jvm.Cond.and given_1 narrow_1) := sorry
theorem xt_cs : Cond.eq (.static "java/lang/String" "COMPACT_STRINGS" "Z") (.int 1) ∈ flatC (Jvm.Cond.and given_1 narrow_1) := sorry
theorem xt_fm : Cond.isRef (.static "jdk/internal/util/Preconditions" "SIOOBE_FORMATTER" "Ljava/util/function/BiFunction;") ∈ flatC (Jvm.Cond.and given_1 narrow_1) := sorry
theorem xt_l1 : Cond.laysStatic "java/lang/String" "COMPACT_STRINGS" "Z" ∈ lw_tbl := sorry
theorem xt_l2 : Cond.laysStatic "jdk/internal/util/Preconditions" "SIOOBE_FORMATTER" "Ljava/util/function/BiFunction;" ∈ lw_tbl := sorry
theorem xt_i1 : Cond.initialized "java/lang/String" ∈ lw_tbl := sorry
theorem xt_i2 : Cond.initialized "jdk/internal/util/Preconditions" ∈ lw_tbl := sorry
theorem xt_sr : ∀ i : Nat, i < 23 → Cond.stringRef (xstr.getD i ("", 0, "")).1 (xstr.getD i ("", 0, "")).2.1 (xstr.getD i ("", 0, "")).2.2 ∈ lw_tbl := sorry
