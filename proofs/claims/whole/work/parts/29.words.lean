/-! WHAT THE STATEMENT SAYS of the start: texts and statics of the JDK -/
theorem xinst {ci : Nat} (h : ci < 13) : Cond.instantiable (xRR ci) (xN ci) ∈ lw_tbl := by
  have h2 : ci = 0 ∨ ci = 1 ∨ ci = 2 ∨ ci = 3 ∨ ci = 4 ∨ ci = 5 ∨ ci = 6 ∨ ci = 7 ∨ ci = 8 ∨ ci = 9 ∨ ci = 10 ∨ ci = 11 ∨ ci = 12 := by omega
  rcases h2 with rfl | rfl | rfl | rfl | rfl | rfl | rfl | rfl | rfl | rfl | rfl | rfl | rfl <;> decide +kernel
theorem xarrA {t : Nat} (h : 20 ≤ t ∧ t ≤ 23) : Cond.arrayClass (newarray.typeOf (xat t)) ∈ lw_tbl := by
  have h2 : t = 20 ∨ t = 21 ∨ t = 22 ∨ t = 23 := by omega
  rcases h2 with rfl | rfl | rfl | rfl <;> decide +kernel
theorem xarrO {t : Nat} (h : 24 ≤ t ∧ t ≤ 26) : Cond.arrayOver (.object (xan t)) ∈ lw_tbl := by
  have h2 : t = 24 ∨ t = 25 ∨ t = 26 := by omega
  rcases h2 with rfl | rfl | rfl <;> decide +kernel
def xtm (i : Nat) : Term := .string (xstr.getD i ("", 0, "")).1 (xstr.getD i ("", 0, "")).2.1
theorem xt_ex : ∀ i : Nat, i < 23 → Cond.exactly (xtm i) "java/lang/String" ∈ flatC (Jvm.Cond.and given_1 narrow_1) := by decide +kernel
theorem xt_co : ∀ i : Nat, i < 23 → Cond.eq (.field (xtm i) "java/lang/String" "coder" "B") (.int 0) ∈ flatC (Jvm.Cond.and given_1 narrow_1) := by decide +kernel
theorem xt_ar : ∀ i : Nat, i < 23 → Cond.arrayOf (.field (xtm i) "java/lang/String" "value" "[B") .byte ∈ flatC (Jvm.Cond.and given_1 narrow_1) := by decide +kernel
theorem xt_le : ∀ i : Nat, i < 23 → Cond.eq (.length (.field (xtm i) "java/lang/String" "value" "[B")) (.int (Int32.ofNat (xlen.getD i 0))) ∈ flatC (Jvm.Cond.and given_1 narrow_1) := by decide +kernel
theorem xt_el0 : ∀ j : Nat, j < 70 → Cond.eq (.elem (.field (xtm 0) "java/lang/String" "value" "[B") (.int (Int32.ofNat j))) (.int ((xtx.getD 0 []).getD j 0)) ∈ flatC (Jvm.Cond.and given_1 narrow_1) := by decide +kernel
theorem xt_el1 : ∀ j : Nat, j < 62 → Cond.eq (.elem (.field (xtm 0) "java/lang/String" "value" "[B") (.int (Int32.ofNat (70 + j)))) (.int ((xtx.getD 0 []).getD (70 + j) 0)) ∈ flatC (Jvm.Cond.and given_1 narrow_1) := by decide +kernel
theorem xt_el2_1 : ∀ j : Nat, j < 3 → Cond.eq (.elem (.field (xtm 1) "java/lang/String" "value" "[B") (.int (Int32.ofNat j))) (.int ((xtx.getD 1 []).getD j 0)) ∈ flatC (Jvm.Cond.and given_1 narrow_1) := by decide +kernel
theorem xt_el2_2 : ∀ j : Nat, j < 5 → Cond.eq (.elem (.field (xtm 2) "java/lang/String" "value" "[B") (.int (Int32.ofNat j))) (.int ((xtx.getD 2 []).getD j 0)) ∈ flatC (Jvm.Cond.and given_1 narrow_1) := by decide +kernel
theorem xt_el2_3 : ∀ j : Nat, j < 6 → Cond.eq (.elem (.field (xtm 3) "java/lang/String" "value" "[B") (.int (Int32.ofNat j))) (.int ((xtx.getD 3 []).getD j 0)) ∈ flatC (Jvm.Cond.and given_1 narrow_1) := by decide +kernel
theorem xt_el2_4 : ∀ j : Nat, j < 4 → Cond.eq (.elem (.field (xtm 4) "java/lang/String" "value" "[B") (.int (Int32.ofNat j))) (.int ((xtx.getD 4 []).getD j 0)) ∈ flatC (Jvm.Cond.and given_1 narrow_1) := by decide +kernel
theorem xt_el2_5 : ∀ j : Nat, j < 4 → Cond.eq (.elem (.field (xtm 5) "java/lang/String" "value" "[B") (.int (Int32.ofNat j))) (.int ((xtx.getD 5 []).getD j 0)) ∈ flatC (Jvm.Cond.and given_1 narrow_1) := by decide +kernel
theorem xt_el2_6 : ∀ j : Nat, j < 4 → Cond.eq (.elem (.field (xtm 6) "java/lang/String" "value" "[B") (.int (Int32.ofNat j))) (.int ((xtx.getD 6 []).getD j 0)) ∈ flatC (Jvm.Cond.and given_1 narrow_1) := by decide +kernel
theorem xt_el2_7 : ∀ j : Nat, j < 5 → Cond.eq (.elem (.field (xtm 7) "java/lang/String" "value" "[B") (.int (Int32.ofNat j))) (.int ((xtx.getD 7 []).getD j 0)) ∈ flatC (Jvm.Cond.and given_1 narrow_1) := by decide +kernel
theorem xt_el2_8 : ∀ j : Nat, j < 2 → Cond.eq (.elem (.field (xtm 8) "java/lang/String" "value" "[B") (.int (Int32.ofNat j))) (.int ((xtx.getD 8 []).getD j 0)) ∈ flatC (Jvm.Cond.and given_1 narrow_1) := by decide +kernel
theorem xt_el2_9 : ∀ j : Nat, j < 4 → Cond.eq (.elem (.field (xtm 9) "java/lang/String" "value" "[B") (.int (Int32.ofNat j))) (.int ((xtx.getD 9 []).getD j 0)) ∈ flatC (Jvm.Cond.and given_1 narrow_1) := by decide +kernel
theorem xt_el2_10 : ∀ j : Nat, j < 4 → Cond.eq (.elem (.field (xtm 10) "java/lang/String" "value" "[B") (.int (Int32.ofNat j))) (.int ((xtx.getD 10 []).getD j 0)) ∈ flatC (Jvm.Cond.and given_1 narrow_1) := by decide +kernel
theorem xt_el2_11 : ∀ j : Nat, j < 3 → Cond.eq (.elem (.field (xtm 11) "java/lang/String" "value" "[B") (.int (Int32.ofNat j))) (.int ((xtx.getD 11 []).getD j 0)) ∈ flatC (Jvm.Cond.and given_1 narrow_1) := by decide +kernel
theorem xt_el2_12 : ∀ j : Nat, j < 5 → Cond.eq (.elem (.field (xtm 12) "java/lang/String" "value" "[B") (.int (Int32.ofNat j))) (.int ((xtx.getD 12 []).getD j 0)) ∈ flatC (Jvm.Cond.and given_1 narrow_1) := by decide +kernel
theorem xt_el2_13 : ∀ j : Nat, j < 4 → Cond.eq (.elem (.field (xtm 13) "java/lang/String" "value" "[B") (.int (Int32.ofNat j))) (.int ((xtx.getD 13 []).getD j 0)) ∈ flatC (Jvm.Cond.and given_1 narrow_1) := by decide +kernel
theorem xt_el2_14 : ∀ j : Nat, j < 6 → Cond.eq (.elem (.field (xtm 14) "java/lang/String" "value" "[B") (.int (Int32.ofNat j))) (.int ((xtx.getD 14 []).getD j 0)) ∈ flatC (Jvm.Cond.and given_1 narrow_1) := by decide +kernel
theorem xt_el2_15 : ∀ j : Nat, j < 4 → Cond.eq (.elem (.field (xtm 15) "java/lang/String" "value" "[B") (.int (Int32.ofNat j))) (.int ((xtx.getD 15 []).getD j 0)) ∈ flatC (Jvm.Cond.and given_1 narrow_1) := by decide +kernel
theorem xt_el2_16 : ∀ j : Nat, j < 2 → Cond.eq (.elem (.field (xtm 16) "java/lang/String" "value" "[B") (.int (Int32.ofNat j))) (.int ((xtx.getD 16 []).getD j 0)) ∈ flatC (Jvm.Cond.and given_1 narrow_1) := by decide +kernel
theorem xt_el2_17 : ∀ j : Nat, j < 5 → Cond.eq (.elem (.field (xtm 17) "java/lang/String" "value" "[B") (.int (Int32.ofNat j))) (.int ((xtx.getD 17 []).getD j 0)) ∈ flatC (Jvm.Cond.and given_1 narrow_1) := by decide +kernel
theorem xt_el2_18 : ∀ j : Nat, j < 4 → Cond.eq (.elem (.field (xtm 18) "java/lang/String" "value" "[B") (.int (Int32.ofNat j))) (.int ((xtx.getD 18 []).getD j 0)) ∈ flatC (Jvm.Cond.and given_1 narrow_1) := by decide +kernel
theorem xt_el2_19 : ∀ j : Nat, j < 2 → Cond.eq (.elem (.field (xtm 19) "java/lang/String" "value" "[B") (.int (Int32.ofNat j))) (.int ((xtx.getD 19 []).getD j 0)) ∈ flatC (Jvm.Cond.and given_1 narrow_1) := by decide +kernel
theorem xt_el2_20 : ∀ j : Nat, j < 3 → Cond.eq (.elem (.field (xtm 20) "java/lang/String" "value" "[B") (.int (Int32.ofNat j))) (.int ((xtx.getD 20 []).getD j 0)) ∈ flatC (Jvm.Cond.and given_1 narrow_1) := by decide +kernel
theorem xt_el2_21 : ∀ j : Nat, j < 3 → Cond.eq (.elem (.field (xtm 21) "java/lang/String" "value" "[B") (.int (Int32.ofNat j))) (.int ((xtx.getD 21 []).getD j 0)) ∈ flatC (Jvm.Cond.and given_1 narrow_1) := by decide +kernel
theorem xt_el2_22 : ∀ j : Nat, j < 2 → Cond.eq (.elem (.field (xtm 22) "java/lang/String" "value" "[B") (.int (Int32.ofNat j))) (.int ((xtx.getD 22 []).getD j 0)) ∈ flatC (Jvm.Cond.and given_1 narrow_1) := by decide +kernel
theorem xt_el2 : ∀ i : Nat, i < 22 → ∀ j : Nat, j < xlen.getD (i + 1) 0 → Cond.eq (.elem (.field (xtm (i + 1)) "java/lang/String" "value" "[B") (.int (Int32.ofNat j))) (.int ((xtx.getD (i + 1) []).getD j 0)) ∈ flatC (Jvm.Cond.and given_1 narrow_1) := by
  intro i hi
  match i, hi with
  | 0, _ => exact xt_el2_1
  | 1, _ => exact xt_el2_2
  | 2, _ => exact xt_el2_3
  | 3, _ => exact xt_el2_4
  | 4, _ => exact xt_el2_5
  | 5, _ => exact xt_el2_6
  | 6, _ => exact xt_el2_7
  | 7, _ => exact xt_el2_8
  | 8, _ => exact xt_el2_9
  | 9, _ => exact xt_el2_10
  | 10, _ => exact xt_el2_11
  | 11, _ => exact xt_el2_12
  | 12, _ => exact xt_el2_13
  | 13, _ => exact xt_el2_14
  | 14, _ => exact xt_el2_15
  | 15, _ => exact xt_el2_16
  | 16, _ => exact xt_el2_17
  | 17, _ => exact xt_el2_18
  | 18, _ => exact xt_el2_19
  | 19, _ => exact xt_el2_20
  | 20, _ => exact xt_el2_21
  | 21, _ => exact xt_el2_22
  | k + 22, h => exact absurd h (by omega)
theorem xt_ne_1 : ∀ j : Nat, j < 1 → Cond.not (Cond.eq (xtm j) (xtm 1)) ∈ flatC (Jvm.Cond.and given_1 narrow_1) := by decide +kernel
theorem xt_ne_2 : ∀ j : Nat, j < 2 → Cond.not (Cond.eq (xtm j) (xtm 2)) ∈ flatC (Jvm.Cond.and given_1 narrow_1) := by decide +kernel
theorem xt_ne_3 : ∀ j : Nat, j < 3 → Cond.not (Cond.eq (xtm j) (xtm 3)) ∈ flatC (Jvm.Cond.and given_1 narrow_1) := by decide +kernel
theorem xt_ne_4 : ∀ j : Nat, j < 4 → Cond.not (Cond.eq (xtm j) (xtm 4)) ∈ flatC (Jvm.Cond.and given_1 narrow_1) := by decide +kernel
theorem xt_ne_5 : ∀ j : Nat, j < 5 → Cond.not (Cond.eq (xtm j) (xtm 5)) ∈ flatC (Jvm.Cond.and given_1 narrow_1) := by decide +kernel
theorem xt_ne_6 : ∀ j : Nat, j < 6 → Cond.not (Cond.eq (xtm j) (xtm 6)) ∈ flatC (Jvm.Cond.and given_1 narrow_1) := by decide +kernel
theorem xt_ne_7 : ∀ j : Nat, j < 7 → Cond.not (Cond.eq (xtm j) (xtm 7)) ∈ flatC (Jvm.Cond.and given_1 narrow_1) := by decide +kernel
theorem xt_ne_8 : ∀ j : Nat, j < 8 → Cond.not (Cond.eq (xtm j) (xtm 8)) ∈ flatC (Jvm.Cond.and given_1 narrow_1) := by decide +kernel
theorem xt_ne_9 : ∀ j : Nat, j < 9 → Cond.not (Cond.eq (xtm j) (xtm 9)) ∈ flatC (Jvm.Cond.and given_1 narrow_1) := by decide +kernel
theorem xt_ne_10 : ∀ j : Nat, j < 10 → Cond.not (Cond.eq (xtm j) (xtm 10)) ∈ flatC (Jvm.Cond.and given_1 narrow_1) := by decide +kernel
theorem xt_ne_11 : ∀ j : Nat, j < 11 → Cond.not (Cond.eq (xtm j) (xtm 11)) ∈ flatC (Jvm.Cond.and given_1 narrow_1) := by decide +kernel
theorem xt_ne_12 : ∀ j : Nat, j < 12 → Cond.not (Cond.eq (xtm j) (xtm 12)) ∈ flatC (Jvm.Cond.and given_1 narrow_1) := by decide +kernel
theorem xt_ne_13 : ∀ j : Nat, j < 13 → Cond.not (Cond.eq (xtm j) (xtm 13)) ∈ flatC (Jvm.Cond.and given_1 narrow_1) := by decide +kernel
theorem xt_ne_14 : ∀ j : Nat, j < 14 → Cond.not (Cond.eq (xtm j) (xtm 14)) ∈ flatC (Jvm.Cond.and given_1 narrow_1) := by decide +kernel
theorem xt_ne_15 : ∀ j : Nat, j < 15 → Cond.not (Cond.eq (xtm j) (xtm 15)) ∈ flatC (Jvm.Cond.and given_1 narrow_1) := by decide +kernel
theorem xt_ne_16 : ∀ j : Nat, j < 16 → Cond.not (Cond.eq (xtm j) (xtm 16)) ∈ flatC (Jvm.Cond.and given_1 narrow_1) := by decide +kernel
theorem xt_ne_17 : ∀ j : Nat, j < 17 → Cond.not (Cond.eq (xtm j) (xtm 17)) ∈ flatC (Jvm.Cond.and given_1 narrow_1) := by decide +kernel
theorem xt_ne_18 : ∀ j : Nat, j < 18 → Cond.not (Cond.eq (xtm j) (xtm 18)) ∈ flatC (Jvm.Cond.and given_1 narrow_1) := by decide +kernel
theorem xt_ne_19 : ∀ j : Nat, j < 19 → Cond.not (Cond.eq (xtm j) (xtm 19)) ∈ flatC (Jvm.Cond.and given_1 narrow_1) := by decide +kernel
theorem xt_ne_20 : ∀ j : Nat, j < 20 → Cond.not (Cond.eq (xtm j) (xtm 20)) ∈ flatC (Jvm.Cond.and given_1 narrow_1) := by decide +kernel
theorem xt_ne_21 : ∀ j : Nat, j < 21 → Cond.not (Cond.eq (xtm j) (xtm 21)) ∈ flatC (Jvm.Cond.and given_1 narrow_1) := by decide +kernel
theorem xt_ne_22 : ∀ j : Nat, j < 22 → Cond.not (Cond.eq (xtm j) (xtm 22)) ∈ flatC (Jvm.Cond.and given_1 narrow_1) := by decide +kernel
theorem xt_ne : ∀ i : Nat, i < 23 → ∀ j : Nat, j < i → Cond.not (Cond.eq (xtm j) (xtm i)) ∈ flatC (Jvm.Cond.and given_1 narrow_1) := by
  intro i hi
  match i, hi with
  | 0, _ => exact fun j hj => absurd hj (by omega)
  | 1, _ => exact xt_ne_1
  | 2, _ => exact xt_ne_2
  | 3, _ => exact xt_ne_3
  | 4, _ => exact xt_ne_4
  | 5, _ => exact xt_ne_5
  | 6, _ => exact xt_ne_6
  | 7, _ => exact xt_ne_7
  | 8, _ => exact xt_ne_8
  | 9, _ => exact xt_ne_9
  | 10, _ => exact xt_ne_10
  | 11, _ => exact xt_ne_11
  | 12, _ => exact xt_ne_12
  | 13, _ => exact xt_ne_13
  | 14, _ => exact xt_ne_14
  | 15, _ => exact xt_ne_15
  | 16, _ => exact xt_ne_16
  | 17, _ => exact xt_ne_17
  | 18, _ => exact xt_ne_18
  | 19, _ => exact xt_ne_19
  | 20, _ => exact xt_ne_20
  | 21, _ => exact xt_ne_21
  | 22, _ => exact xt_ne_22
  | k + 23, h => exact absurd h (by omega)
theorem xt_cs : Cond.eq (.static "java/lang/String" "COMPACT_STRINGS" "Z") (.int 1) ∈ flatC (Jvm.Cond.and given_1 narrow_1) := by decide +kernel
theorem xt_fm : Cond.isRef (.static "jdk/internal/util/Preconditions" "SIOOBE_FORMATTER" "Ljava/util/function/BiFunction;") ∈ flatC (Jvm.Cond.and given_1 narrow_1) := by decide +kernel
theorem xt_l1 : Cond.laysStatic "java/lang/String" "COMPACT_STRINGS" "Z" ∈ lw_tbl := by decide +kernel
theorem xt_l2 : Cond.laysStatic "jdk/internal/util/Preconditions" "SIOOBE_FORMATTER" "Ljava/util/function/BiFunction;" ∈ lw_tbl := by decide +kernel
theorem xt_i1 : Cond.initialized "java/lang/String" ∈ lw_tbl := by decide +kernel
theorem xt_i2 : Cond.initialized "jdk/internal/util/Preconditions" ∈ lw_tbl := by decide +kernel
theorem xt_sr : ∀ i : Nat, i < 23 → Cond.stringRef (xstr.getD i ("", 0, "")).1 (xstr.getD i ("", 0, "")).2.1 (xstr.getD i ("", 0, "")).2.2 ∈ lw_tbl := by decide +kernel
