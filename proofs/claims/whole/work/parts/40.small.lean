/-! SMALL QUESTIONS of both sides; seed -/
theorem lg_lt0 (x y : Int64) : lg_cmp x y < 0 ↔ x < y := by
  rw [← Int32.not_le, lg_cmp_ge, Int64.not_le]
theorem lg_gt0 (x y : Int64) : 0 < lg_cmp x y ↔ y < x := by
  unfold lg_cmp
  by_cases h : x > y
  · rw [if_pos h]
    exact ⟨fun _ => h, fun _ => by decide⟩
  · rw [if_neg h]
    refine ⟨fun q => ?_, fun q => absurd q h⟩
    by_cases h2 : x = y
    · rw [if_pos h2] at q; exact absurd q (by decide)
    · rw [if_neg h2] at q; exact absurd q (by decide)
section SQ
variable {X : xX} {h : xH} {sh : List (Nat × Nat)} {I : Nat → Nat → Int32} {L : Nat → Nat → Int64} {R : Nat → Nat → Option Nat}
theorem cs_within {n lo hi : Int32} : Ec X 1 175 [.int n, .int lo, .int hi] h (fun r h' => r = some (.int (if n < lo ∨ hi < n then 0 else 1)) ∧ h' = h) := by
  refine Ec.of (Nat.le_of_ble_eq_true rfl) ?_
  by_cases h1 : n < lo
  · simp only [if_pos (show n < lo ∨ hi < n from Or.inl h1)]
    refine e_iload rfl rfl ?_
    refine e_iload rfl rfl ?_
    refine e_clt_t rfl h1 ?_
    refine e_ipush rfl ?_
    exact Eg.ret rfl (by decide) rfl ⟨rfl, rfl⟩
  · by_cases h2 : hi < n
    · simp only [if_pos (show n < lo ∨ hi < n from Or.inr h2)]
      refine e_iload rfl rfl ?_
      refine e_iload rfl rfl ?_
      refine e_clt_f rfl h1 ?_
      refine e_iload rfl rfl ?_
      refine e_iload rfl rfl ?_
      refine e_cgt_t rfl h2 ?_
      refine e_ipush rfl ?_
      exact Eg.ret rfl (by decide) rfl ⟨rfl, rfl⟩
    · simp only [if_neg (show ¬ (n < lo ∨ hi < n) from fun q => q.elim h1 h2)]
      refine e_iload rfl rfl ?_
      refine e_iload rfl rfl ?_
      refine e_clt_f rfl h1 ?_
      refine e_iload rfl rfl ?_
      refine e_iload rfl rfl ?_
      refine e_cgt_f rfl h2 ?_
      refine e_ipush rfl ?_
      refine e_goto rfl ?_
      exact Eg.ret rfl (by decide) rfl ⟨rfl, rfl⟩
theorem cs_isDay {n : Int32} : Ec X 1 176 [.int n] h (fun r h' => r = some (.int (if n < 0 ∨ 9999 < n then 0 else 1)) ∧ h' = h) := by
  refine Ec.of (Nat.le_of_ble_eq_true rfl) ?_
  by_cases h1 : n < 0
  · simp only [if_pos (show n < 0 ∨ 9999 < n from Or.inl h1)]
    refine e_iload rfl rfl ?_
    refine e_iflt_t rfl h1 ?_
    refine e_ipush rfl ?_
    exact Eg.ret rfl (by decide) rfl ⟨rfl, rfl⟩
  · by_cases h2 : 9999 < n
    · simp only [if_pos (show n < 0 ∨ 9999 < n from Or.inr h2)]
      refine e_iload rfl rfl ?_
      refine e_iflt_f rfl h1 ?_
      refine e_iload rfl rfl ?_
      refine e_ipush rfl ?_
      refine e_cgt_t rfl h2 ?_
      refine e_ipush rfl ?_
      exact Eg.ret rfl (by decide) rfl ⟨rfl, rfl⟩
    · simp only [if_neg (show ¬ (n < 0 ∨ 9999 < n) from fun q => q.elim h1 h2)]
      refine e_iload rfl rfl ?_
      refine e_iflt_f rfl h1 ?_
      refine e_iload rfl rfl ?_
      refine e_ipush rfl ?_
      refine e_cgt_f rfl h2 ?_
      refine e_ipush rfl ?_
      refine e_goto rfl ?_
      exact Eg.ret rfl (by decide) rfl ⟨rfl, rfl⟩
theorem cs_isThere {s : Nat} (hs : sh[s]? = some (7, 20)) : Ec X 1 83 [.ref s] (sh, I, L, R) (fun r h' => r = some (.int (if I s 0 ≤ 0 then 0 else 1)) ∧ h' = (sh, I, L, R)) := by
  refine Ec.of (Nat.le_of_ble_eq_true rfl) ?_
  by_cases h1 : I s 0 ≤ 0
  · simp only [if_pos h1]
    refine e_aload rfl rfl ?_
    refine e_getI rfl (by assumption) ?_
    refine e_ifle_t rfl h1 ?_
    refine e_ipush rfl ?_
    exact Eg.ret rfl (by decide) rfl ⟨rfl, rfl⟩
  · simp only [if_neg h1]
    refine e_aload rfl rfl ?_
    refine e_getI rfl (by assumption) ?_
    refine e_ifle_f rfl h1 ?_
    refine e_ipush rfl ?_
    refine e_goto rfl ?_
    exact Eg.ret rfl (by decide) rfl ⟨rfl, rfl⟩
theorem cs_hasCell {s : Nat} {n : Int32} (hs : sh[s]? = some (7, 20)) : Ec X 1 84 [.ref s, .int n] (sh, I, L, R) (fun r h' => r = some (.int (if n < 0 ∨ I s 0 ≤ n then 0 else 1)) ∧ h' = (sh, I, L, R)) := by
  refine Ec.of (Nat.le_of_ble_eq_true rfl) ?_
  by_cases h1 : n < 0
  · simp only [if_pos (show n < 0 ∨ I s 0 ≤ n from Or.inl h1)]
    refine e_iload rfl rfl ?_
    refine e_iflt_t rfl h1 ?_
    refine e_ipush rfl ?_
    exact Eg.ret rfl (by decide) rfl ⟨rfl, rfl⟩
  · by_cases h2 : I s 0 ≤ n
    · simp only [if_pos (show n < 0 ∨ I s 0 ≤ n from Or.inr h2)]
      refine e_iload rfl rfl ?_
      refine e_iflt_f rfl h1 ?_
      refine e_iload rfl rfl ?_
      refine e_aload rfl rfl ?_
      refine e_getI rfl (by assumption) ?_
      refine e_cge_t rfl h2 ?_
      refine e_ipush rfl ?_
      exact Eg.ret rfl (by decide) rfl ⟨rfl, rfl⟩
    · simp only [if_neg (show ¬ (n < 0 ∨ I s 0 ≤ n) from fun q => q.elim h1 h2)]
      refine e_iload rfl rfl ?_
      refine e_iflt_f rfl h1 ?_
      refine e_iload rfl rfl ?_
      refine e_aload rfl rfl ?_
      refine e_getI rfl (by assumption) ?_
      refine e_cge_f rfl h2 ?_
      refine e_ipush rfl ?_
      refine e_goto rfl ?_
      exact Eg.ret rfl (by decide) rfl ⟨rfl, rfl⟩
theorem cs_hasShip {s : Nat} {n : Int32} (hs : sh[s]? = some (7, 20)) : Ec X 1 85 [.ref s, .int n] (sh, I, L, R) (fun r h' => r = some (.int (if n < 0 ∨ I s 4 ≤ n then 0 else 1)) ∧ h' = (sh, I, L, R)) := by
  refine Ec.of (Nat.le_of_ble_eq_true rfl) ?_
  by_cases h1 : n < 0
  · simp only [if_pos (show n < 0 ∨ I s 4 ≤ n from Or.inl h1)]
    refine e_iload rfl rfl ?_
    refine e_iflt_t rfl h1 ?_
    refine e_ipush rfl ?_
    exact Eg.ret rfl (by decide) rfl ⟨rfl, rfl⟩
  · by_cases h2 : I s 4 ≤ n
    · simp only [if_pos (show n < 0 ∨ I s 4 ≤ n from Or.inr h2)]
      refine e_iload rfl rfl ?_
      refine e_iflt_f rfl h1 ?_
      refine e_iload rfl rfl ?_
      refine e_aload rfl rfl ?_
      refine e_getI rfl (by assumption) ?_
      refine e_cge_t rfl h2 ?_
      refine e_ipush rfl ?_
      exact Eg.ret rfl (by decide) rfl ⟨rfl, rfl⟩
    · simp only [if_neg (show ¬ (n < 0 ∨ I s 4 ≤ n) from fun q => q.elim h1 h2)]
      refine e_iload rfl rfl ?_
      refine e_iflt_f rfl h1 ?_
      refine e_iload rfl rfl ?_
      refine e_aload rfl rfl ?_
      refine e_getI rfl (by assumption) ?_
      refine e_cge_f rfl h2 ?_
      refine e_ipush rfl ?_
      refine e_goto rfl ?_
      exact Eg.ret rfl (by decide) rfl ⟨rfl, rfl⟩
theorem ms_in {n lo hi : Int64} : Ec X 1 182 [.long n, .long lo, .long hi] h (fun r h' => r = some (.int (if n < lo ∨ hi < n then 0 else 1)) ∧ h' = h) := by
  refine Ec.of (Nat.le_of_ble_eq_true rfl) ?_
  by_cases h1 : n < lo
  · simp only [if_pos (show n < lo ∨ hi < n from Or.inl h1)]
    refine e_lload rfl rfl ?_
    refine e_lload rfl rfl ?_
    refine e_lcmp rfl ?_
    refine e_iflt_t rfl ((lg_lt0 n lo).mpr h1) ?_
    refine e_ipush rfl ?_
    exact Eg.ret rfl (by decide) rfl ⟨rfl, rfl⟩
  · by_cases h2 : hi < n
    · simp only [if_pos (show n < lo ∨ hi < n from Or.inr h2)]
      refine e_lload rfl rfl ?_
      refine e_lload rfl rfl ?_
      refine e_lcmp rfl ?_
      refine e_iflt_f rfl (fun q => h1 ((lg_lt0 n lo).mp q)) ?_
      refine e_lload rfl rfl ?_
      refine e_lload rfl rfl ?_
      refine e_lcmp rfl ?_
      refine e_ifgt_t rfl ((lg_gt0 n hi).mpr h2) ?_
      refine e_ipush rfl ?_
      exact Eg.ret rfl (by decide) rfl ⟨rfl, rfl⟩
    · simp only [if_neg (show ¬ (n < lo ∨ hi < n) from fun q => q.elim h1 h2)]
      refine e_lload rfl rfl ?_
      refine e_lload rfl rfl ?_
      refine e_lcmp rfl ?_
      refine e_iflt_f rfl (fun q => h1 ((lg_lt0 n lo).mp q)) ?_
      refine e_lload rfl rfl ?_
      refine e_lload rfl rfl ?_
      refine e_lcmp rfl ?_
      refine e_ifgt_f rfl (fun q => h2 ((lg_gt0 n hi).mp q)) ?_
      refine e_ipush rfl ?_
      refine e_goto rfl ?_
      exact Eg.ret rfl (by decide) rfl ⟨rfl, rfl⟩
theorem ms_isSea {m u : Nat} (hm : sh[m]? = some (12, 88)) (hu : sh[u]? = some (20, 14)) (hr : R m 1 = some u) : Ec X 1 185 [.ref m] (sh, I, L, R) (fun r h' => r = some (.int (if I u 0 ≤ 0 then 0 else 1)) ∧ h' = (sh, I, L, R)) := by
  refine Ec.of (Nat.le_of_ble_eq_true rfl) ?_
  have hx : vp_in 0 14 := vp_in_nI (n := 0) (by decide) (by decide)
  have ez : (0 : Int32).toNatClampNeg = 0 := by decide +kernel
  by_cases h1 : I u 0 ≤ 0
  · simp only [if_pos h1]
    refine e_aload rfl rfl ?_
    refine e_getR rfl (by assumption) (by assumption) ?_
    refine e_ipush rfl ?_
    refine e_iald rfl (by assumption) hx ?_
    refine e_ifle_t rfl (by rw [ez]; exact h1) ?_
    refine e_ipush rfl ?_
    exact Eg.ret rfl (by decide) rfl ⟨rfl, rfl⟩
  · simp only [if_neg h1]
    refine e_aload rfl rfl ?_
    refine e_getR rfl (by assumption) (by assumption) ?_
    refine e_ipush rfl ?_
    refine e_iald rfl (by assumption) hx ?_
    refine e_ifle_f rfl (by rw [ez]; exact h1) ?_
    refine e_ipush rfl ?_
    refine e_goto rfl ?_
    exact Eg.ret rfl (by decide) rfl ⟨rfl, rfl⟩
/-- seed of the class: o its object, w its world -/
theorem cf_seed {o w : Nat} {x : Int32} (ho : sh[o]? = some (11, 13)) (hw : sh[w]? = some (10, 12)) (hr : R o 7 = some w) : Ec X 1 169 [.ref o, .int x] (sh, I, L, R) (fun r h' => if x < 0 then (r = some (.int (-1)) ∧ h' = (sh, I, L, R)) else (r = some (.int (I w 11)) ∧ h' = (sh, xu I w 11 x, L, R))) := by
  refine Ec.of (Nat.le_of_ble_eq_true rfl) ?_
  by_cases h1 : x < 0
  · simp only [if_pos h1]
    refine e_iload rfl rfl ?_
    refine e_ifge_f rfl (Int32.not_le.mpr h1) ?_
    refine e_ipush rfl ?_
    exact Eg.ret rfl (by decide) rfl ⟨rfl, rfl⟩
  · simp only [if_neg h1]
    refine e_iload rfl rfl ?_
    refine e_ifge_t rfl (Int32.not_lt.mp h1) ?_
    refine e_aload rfl rfl ?_
    refine e_getR rfl (by assumption) (by assumption) ?_
    refine e_getI rfl (by assumption) ?_
    refine e_istore rfl ?_
    refine e_aload rfl rfl ?_
    refine e_getR rfl (by assumption) (by assumption) ?_
    refine e_iload rfl rfl ?_
    refine e_putI rfl (by assumption) ?_
    refine e_iload rfl rfl ?_
    exact Eg.ret rfl (by decide) rfl ⟨rfl, rfl⟩
theorem md_seed {m u : Nat} {x : Int32} (hm : sh[m]? = some (12, 88)) (hu : sh[u]? = some (20, 14)) (hr : R m 1 = some u) : Ec X 1 301 [.ref m, .int x] (sh, I, L, R) (fun r h' => if x < 0 then (r = some (.int (-1)) ∧ h' = (sh, I, L, R)) else (r = some (.int (I u 13)) ∧ h' = (sh, xu I u 13 x, L, R))) := by
  refine Ec.of (Nat.le_of_ble_eq_true rfl) ?_
  have hx : vp_in 13 14 := vp_in_nI (n := 13) (by decide) (by decide)
  have ez : (13 : Int32).toNatClampNeg = 13 := by decide +kernel
  by_cases h1 : x < 0
  · simp only [if_pos h1]
    refine e_iload rfl rfl ?_
    refine e_ifge_f rfl (Int32.not_le.mpr h1) ?_
    refine e_ipush rfl ?_
    exact Eg.ret rfl (by decide) rfl ⟨rfl, rfl⟩
  · simp only [if_neg h1]
    refine e_iload rfl rfl ?_
    refine e_ifge_t rfl (Int32.not_lt.mp h1) ?_
    refine e_aload rfl rfl ?_
    refine e_getR rfl (by assumption) (by assumption) ?_
    refine e_ipush rfl ?_
    refine e_iald rfl (by assumption) hx ?_
    refine e_istore rfl ?_
    refine e_aload rfl rfl ?_
    refine e_getR rfl (by assumption) (by assumption) ?_
    refine e_ipush rfl ?_
    refine e_iload rfl rfl ?_
    refine e_iast rfl (by assumption) hx ?_
    refine e_iload rfl rfl ?_
    rw [ez]
    exact Eg.ret rfl (by decide) rfl ⟨rfl, rfl⟩
end SQ
