/-! LONGS: rests, divisors, powers -/
section LO
variable {X : xX} {h : xH}
theorem lN_int {n : Nat} (h : n < 2 ^ 63) : (lN n).toInt = (n : Int) := Int64.toInt_ofNat_of_lt h
theorem lN_ne0 {n : Nat} (h0 : 0 < n) (h : n < 2 ^ 63) : ¬ lN n = 0 := fun e => by
  have := congrArg Int64.toInt e
  rw [lN_int h] at this
  have z : (0 : Int64).toInt = 0 := by decide
  omega
theorem lN_div {a b : Nat} (ha : a < 2 ^ 63) (hb : b < 2 ^ 63) : lN a / lN b = lN (a / b) := by
  apply Int64.toInt_inj.mp
  have h1 : a / b ≤ a := Nat.div_le_self a b
  rw [Int64.toInt_div, lN_int ha, lN_int hb, lN_int (by omega), Int.tdiv_eq_ediv_of_nonneg (by omega)]
  rw [Int.bmod_eq_of_le]
  · rfl
  · have : (0 : Int) ≤ (a : Int) / (b : Int) := Int.ediv_nonneg (by omega) (by omega)
    omega
  · have : (a : Int) / (b : Int) = ((a / b : Nat) : Int) := rfl
    omega
theorem lN_mod {a b : Nat} (ha : a < 2 ^ 63) (hb : b < 2 ^ 63) : lN a - lN a / lN b * lN b = lN (a % b) := by
  rw [lN_div ha hb, lN_mul, lN_sub (Nat.div_mul_le_self a b)]
  congr 1
  have := Nat.mod_add_div a b
  rw [Nat.mul_comm] at this
  omega
theorem lg_0 {n : Nat} (h : n < 2 ^ 63) : lg_cmp (lN n) 0 = 0 ↔ n = 0 := by
  constructor
  · intro q
    apply Decidable.byContradiction
    intro hn
    have h1 : ¬ lN n = 0 := lN_ne0 (by omega) h
    unfold lg_cmp at q
    rw [if_neg h1] at q
    by_cases hc : lN n > 0
    · rw [if_pos hc] at q; exact absurd q (by decide)
    · rw [if_neg hc] at q; exact absurd q (by decide)
  · intro q; subst q; decide
theorem ms_div_loop {Q : Option Value → xH → Prop} {a b : Int64} (x : Nat) : ∀ y, x < 2 ^ 63 → y < 2 ^ 63 → Q (some (.long (lN (Nat.gcd x y)))) h → Eg X xTc 0 184 6 [(0, .long a), (2, .long b), (4, .long (lN x)), (6, .long (lN y))] [] h Q := by
  induction x using Nat.strongRecOn with
  | _ x ih =>
    intro y hx hy hQ
    refine e_lload rfl rfl ?_
    refine e_lpush rfl ?_
    refine e_lcmp rfl ?_
    refine e_ifeq_b rfl (fun b10 => ?_) (fun b10 => ?_)
    · have b10 := (lg_0 hx).mp b10
      subst b10
      refine e_lload rfl rfl ?_
      exact Eg.ret rfl (by decide) rfl (by rw [Nat.gcd_zero_left] at hQ; exact hQ)
    · have b10 : ¬ x = 0 := fun q => b10 ((lg_0 hx).mpr q)
      refine e_lload rfl rfl ?_
      refine e_lload rfl rfl ?_
      refine e_lrem rfl (lN_ne0 (by omega) hx) ?_
      refine e_lstore rfl ?_
      refine e_lload rfl rfl ?_
      refine e_lstore rfl ?_
      refine e_lload rfl rfl ?_
      refine e_lstore rfl ?_
      refine e_goto rfl ?_
      rw [lN_mod hy hx]
      refine Eg.pk [0, 2, 4, 6] [4, 6, 8, 0, 2] rfl (by decide) ?_
      refine ih (y % x) (Nat.mod_lt _ (by omega)) x (Nat.lt_of_le_of_lt (Nat.mod_le _ _) hy) hx ?_
      rw [Nat.gcd_rec] at hQ; exact hQ
theorem ms_divisor {x y : Nat} (hx : x < 2 ^ 63) (hy : y < 2 ^ 63) : Ec X 1 184 [.long (lN x), .long (lN y)] h (fun r h' => r = some (.long (lN (Nat.gcd x y))) ∧ h' = h) := by
  refine Ec.of (Nat.le_of_ble_eq_true rfl) ?_
  refine e_lload rfl rfl ?_
  refine e_lstore rfl ?_
  refine e_lload rfl rfl ?_
  refine e_lstore rfl ?_
  refine Eg.pk [0, 2, 4, 6] [6, 4, 0, 2] rfl (by decide) ?_
  exact ms_div_loop x y hx hy ⟨rfl, rfl⟩
theorem cs_com_step {Q : Option Value → xH → Prop} {a b : Int64} {x y i : Nat} (hx : x < 2 ^ 63) (hy : y < 2 ^ 63) (hi : i < 100) (h0 : 0 < y) (kk : Eg X xTc 0 177 9 [(0, .long a), (2, .long b), (4, .long (lN y)), (6, .long (lN (x % y))), (8, .int (nI (i + 1)))] [] h Q) : Eg X xTc 0 177 9 [(0, .long a), (2, .long b), (4, .long (lN x)), (6, .long (lN y)), (8, .int (nI i))] [] h Q := by
  refine e_lload rfl rfl ?_
  refine e_lpush rfl ?_
  refine e_lcmp rfl ?_
  refine e_ifeq_f rfl (fun q => absurd ((lg_0 hy).mp q) (by omega)) ?_
  refine e_iload rfl rfl ?_
  refine e_ipush rfl ?_
  refine e_cge_f rfl (nI_ge (b := 100) hi (by decide)) ?_
  refine e_lload rfl rfl ?_
  refine e_lload rfl rfl ?_
  refine e_lrem rfl (lN_ne0 h0 hy) ?_
  refine e_lstore rfl ?_
  refine e_lload rfl rfl ?_
  refine e_lstore rfl ?_
  refine e_lload rfl rfl ?_
  refine e_lstore rfl ?_
  refine e_iinc rfl rfl ?_
  refine e_goto rfl ?_
  rw [lN_mod hx hy, nI_1]
  refine Eg.pk [0, 2, 4, 6, 8] [8, 6, 4, 9, 0, 2] rfl (by decide) ?_
  exact kk
theorem cs_com_end {Q : Option Value → xH → Prop} {a b : Int64} {x i : Nat} (hQ : Q (some (.long (lN x))) h) : Eg X xTc 0 177 9 [(0, .long a), (2, .long b), (4, .long (lN x)), (6, .long (lN 0)), (8, .int (nI i))] [] h Q := by
  refine e_lload rfl rfl ?_
  refine e_lpush rfl ?_
  refine e_lcmp rfl ?_
  refine e_ifeq_t rfl (by decide) ?_
  refine e_lload rfl rfl ?_
  exact Eg.ret rfl (by decide) rfl hQ
theorem mod_half {y r : Nat} (h0 : 0 < r) (h : r < y) : 2 * (y % r) < y := by
  have h1 := Nat.mod_lt y h0
  have h2 := Nat.mod_add_div y r
  have h3 : 1 ≤ y / r := (Nat.one_le_div_iff h0).mpr (by omega)
  have h4 : r * 1 ≤ r * (y / r) := Nat.mul_le_mul_left r h3
  omega
theorem cs_com_loop {Q : Option Value → xH → Prop} {a b : Int64} (m : Nat) : ∀ x y i, x < 2 ^ 63 → y < 2 ^ m → m ≤ 48 → i + 2 * m ≤ 100 → Q (some (.long (lN (Nat.gcd x y)))) h → Eg X xTc 0 177 9 [(0, .long a), (2, .long b), (4, .long (lN x)), (6, .long (lN y)), (8, .int (nI i))] [] h Q := by
  induction m with
  | zero =>
    intro x y i hx hy hm hi hQ
    have e : y = 0 := by simpa using hy
    subst e
    exact cs_com_end (by rw [Nat.gcd_zero_right] at hQ; exact hQ)
  | succ m ih =>
    intro x y i hx hy hm hi hQ
    have hp : 2 ^ (m + 1) ≤ 2 ^ 48 := Nat.pow_le_pow_right (by decide) hm
    have hp1 : 2 ^ (m + 1) = 2 * 2 ^ m := by rw [Nat.pow_succ]; omega
    by_cases h0 : y = 0
    · subst h0
      exact cs_com_end (by rw [Nat.gcd_zero_right] at hQ; exact hQ)
    · have e1 : Nat.gcd y (x % y) = Nat.gcd x y := by rw [Nat.gcd_comm y, ← Nat.gcd_rec, Nat.gcd_comm]
      have hr := Nat.mod_lt x (show 0 < y by omega)
      refine cs_com_step hx (by omega) (by omega) (by omega) ?_
      by_cases h1 : x % y = 0
      · rw [h1]
        refine cs_com_end ?_
        rw [h1, Nat.gcd_zero_right] at e1
        rw [← e1] at hQ; exact hQ
      · refine cs_com_step (by omega) (by omega) (by omega) (by omega) ?_
        have hh := mod_half (show 0 < x % y by omega) hr
        have e2 : Nat.gcd (x % y) (y % (x % y)) = Nat.gcd y (x % y) := by rw [Nat.gcd_comm (x % y), ← Nat.gcd_rec, Nat.gcd_comm]
        exact ih (x % y) (y % (x % y)) (i + 2) (by omega) (by omega) (by omega) (by omega) (by rw [e2, e1]; exact hQ)
theorem cs_common {x y : Nat} (hx : x < 2 ^ 63) (hy : y < 2 ^ 48) : Ec X 1 177 [.long (lN x), .long (lN y)] h (fun r h' => r = some (.long (lN (Nat.gcd x y))) ∧ h' = h) := by
  refine Ec.of (Nat.le_of_ble_eq_true rfl) ?_
  refine e_lload rfl rfl ?_
  refine e_lstore rfl ?_
  refine e_lload rfl rfl ?_
  refine e_lstore rfl ?_
  refine e_ipush rfl ?_
  refine e_istore rfl ?_
  refine Eg.pk [0, 2, 4, 6, 8] [8, 6, 4, 0, 2] rfl (by decide) ?_
  exact cs_com_loop 48 x y 0 hx hy (by decide) (by decide) ⟨rfl, rfl⟩
theorem cs_lowest {x y : Nat} {part : Int32} (hx : x < 2 ^ 63) (hy : y < 2 ^ 48) (h0 : 0 < y) : Ec X 2 178 [.long (lN x), .long (lN y), .int part] h (fun r h' => r = some (.long (lN (if part = 0 then x / Nat.gcd x y else y / Nat.gcd x y))) ∧ h' = h) := by
  have hg0 : 0 < Nat.gcd x y := Nat.gcd_pos_of_pos_right x h0
  have hg1 : Nat.gcd x y ≤ y := Nat.gcd_le_right x h0
  refine Ec.of (Nat.le_of_ble_eq_true rfl) ?_
  refine e_lload rfl rfl ?_
  refine e_lload rfl rfl ?_
  refine Eg.p2 rfl (by decide) (by decide) rfl (Nat.le_of_ble_eq_true rfl) (xrcv_ofs (Or.inl rfl)) ((cs_common (x := x) (y := y) hx hy).mono (by decide)) ?_
  refine e_lstore rfl ?_
  refine e_lload rfl rfl ?_
  refine e_lpush rfl ?_
  refine e_lcmp rfl ?_
  refine e_ifne_t rfl (fun q => absurd ((lg_0 (by omega)).mp q) (by omega)) ?_
  refine e_iload rfl rfl ?_
  refine e_ifne_b rfl (fun b20 => ?_) (fun b20 => ?_)
  · refine e_lload rfl rfl ?_
    refine e_lload rfl rfl ?_
    refine e_ldiv rfl (lN_ne0 hg0 (by omega)) ?_
    rw [lN_div (by omega) (by omega)]
    exact Eg.ret rfl (by decide) rfl ⟨congrArg (fun z => some (Value.long (lN z))) ((if_neg b20).symm), rfl⟩
  · refine e_lload rfl rfl ?_
    refine e_lload rfl rfl ?_
    refine e_ldiv rfl (lN_ne0 hg0 (by omega)) ?_
    refine e_goto rfl ?_
    rw [lN_div (by omega) (by omega)]
    exact Eg.ret rfl (by decide) rfl ⟨congrArg (fun z => some (Value.long (lN z))) ((if_pos b20).symm), rfl⟩
theorem cs_power {a n : Nat} (hn : n < 2 ^ 31) : Ec X 1 179 [.long (lN a), .int (nI n)] h (fun r h' => r = some (.long (lN (a ^ n))) ∧ h' = h) := by
  refine Ec.of (Nat.le_of_ble_eq_true rfl) ?_
  refine e_lpush rfl ?_
  refine e_lstore rfl ?_
  refine e_ipush rfl ?_
  refine e_istore rfl ?_
  refine Eg.pk [0, 2, 3, 5] [5, 3, 0, 2] rfl (by decide) ?_
  refine up_ind (p := fun j => Eg X xTc _ 179 5 [(0, .long (lN a)), (2, .int (nI n)), (3, .long (lN (a ^ j))), (5, .int (nI j))] [] h _) (n := n) (j := 0) (fun j hj ih => ?_) ?_ (Nat.zero_le _)
  · refine e_iload rfl rfl ?_
    refine e_iload rfl rfl ?_
    refine e_cge_f rfl (nI_ge hj (by omega)) ?_
    refine e_lload rfl rfl ?_
    refine e_lload rfl rfl ?_
    refine e_lmul rfl ?_
    refine e_lstore rfl ?_
    refine e_iinc rfl rfl ?_
    refine e_goto rfl ?_
    refine Eg.pk [0, 2, 3, 5] [5, 3, 0, 2] rfl (by decide) ?_
    rw [lN_mul, nI_1]
    exact ih
  · refine e_iload rfl rfl ?_
    refine e_iload rfl rfl ?_
    refine e_cge_t rfl (Int32.le_refl _) ?_
    refine e_lload rfl rfl ?_
    exact Eg.ret rfl (by decide) rfl ⟨rfl, rfl⟩
theorem ms_power {a n : Nat} (hn : n < 2 ^ 31) : Ec X 1 299 [.long (lN a), .int (nI n)] h (fun r h' => r = some (.long (lN (a ^ n))) ∧ h' = h) := by
  refine Ec.of (Nat.le_of_ble_eq_true rfl) ?_
  refine e_lpush rfl ?_
  refine e_lstore rfl ?_
  refine e_ipush rfl ?_
  refine e_istore rfl ?_
  refine Eg.pk [0, 2, 3, 5] [5, 3, 0, 2] rfl (by decide) ?_
  refine up_ind (p := fun j => Eg X xTc _ 299 5 [(0, .long (lN a)), (2, .int (nI n)), (3, .long (lN (a ^ j))), (5, .int (nI j))] [] h _) (n := n) (j := 0) (fun j hj ih => ?_) ?_ (Nat.zero_le _)
  · refine e_iload rfl rfl ?_
    refine e_iload rfl rfl ?_
    refine e_cge_f rfl (nI_ge hj (by omega)) ?_
    refine e_lload rfl rfl ?_
    refine e_lload rfl rfl ?_
    refine e_lmul rfl ?_
    refine e_lstore rfl ?_
    refine e_iinc rfl rfl ?_
    refine e_goto rfl ?_
    refine Eg.pk [0, 2, 3, 5] [5, 3, 0, 2] rfl (by decide) ?_
    rw [lN_mul, nI_1]
    exact ih
  · refine e_iload rfl rfl ?_
    refine e_iload rfl rfl ?_
    refine e_cge_t rfl (Int32.le_refl _) ?_
    refine e_lload rfl rfl ?_
    exact Eg.ret rfl (by decide) rfl ⟨rfl, rfl⟩
end LO
