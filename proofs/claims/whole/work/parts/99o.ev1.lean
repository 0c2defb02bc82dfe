/-! RULES worked out: two values joined, code, both sides -/
section EW
variable {X : xX} {h : xH} {sh : List (Nat × Nat)} {I : Nat → Nat → Int32} {L : Nat → Nat → Int64} {R : Nat → Nat → Option Nat} {B : Nat → Nat} {n ri p : Nat} {st : rS}
theorem e_lswn {T : Nat → Nat → Option xI} {d k pc a b g nx m : Nat} {c : Int32} {q : Int64} {l : xL} {st : List Value} {Q : Option Value → xH → Prop} {x : Int32} (hi : T k pc = some (70, a, b, g, c, q, nx)) (hx : xswl (xSLb a).1 (xSLb a).2 x.toInt = m) (kk : Eg X T d k m l st h Q) : Eg X T d k pc l (.int x :: st) h Q := by
  subst hx; exact e_lsw hi kk
theorem lg_eq0 {x y : Int64} : lg_cmp x y = 0 ↔ x = y := by
  constructor
  · intro e
    have h1x := lg_lt0 x y; have h2x := lg_gt0 x y
    rw [e] at h1x h2x
    have n1x : ¬ x < y := fun q => absurd (h1x.mpr q) (by decide)
    have n2x : ¬ y < x := fun q => absurd (h2x.mpr q) (by decide)
    exact Int64.le_antisymm (Int64.not_lt.mp n2x) (Int64.not_lt.mp n1x)
  · intro e; rw [e]; exact lg_cmp_self y
theorem lg_ge0 {x y : Int64} : 0 ≤ lg_cmp x y ↔ ¬ x < y := by rw [← lg_lt0, Int32.not_lt]
theorem lg_le0 {x y : Int64} : lg_cmp x y ≤ 0 ↔ ¬ y < x := by rw [← lg_gt0, Int32.not_lt]
theorem ms_truth1 : Ec X 1 230 [.int 1] h (fun r h' => r = some (.long 1) ∧ h' = h) := by
  refine Ec.of (Nat.le_of_ble_eq_true rfl) ?_
  refine e_iload rfl rfl ?_
  refine e_ifeq_f rfl (by decide) ?_
  refine e_lpush rfl ?_
  refine e_goto rfl ?_
  exact Eg.ret rfl (by decide) rfl ⟨rfl, rfl⟩
theorem ms_truth0 : Ec X 1 230 [.int 0] h (fun r h' => r = some (.long 0) ∧ h' = h) := by
  refine Ec.of (Nat.le_of_ble_eq_true rfl) ?_
  refine e_iload rfl rfl ?_
  refine e_ifeq_t rfl rfl ?_
  refine e_lpush rfl ?_
  exact Eg.ret rfl (by decide) rfl ⟨rfl, rfl⟩
theorem ms_both {k : Nat} (hk : 2 ≤ k ∧ k ≤ 15 ∧ k ≠ 9 ∧ k ≠ 12) {a b : Int64} : Ec X 2 231 [.int (nI k), .long a, .long b] h (fun r h' => r = some (.long (jn k a b)) ∧ h' = h) := by
  have cs : k = 2 ∨ k = 3 ∨ k = 4 ∨ k = 5 ∨ k = 6 ∨ k = 7 ∨ k = 8 ∨ k = 10 ∨ k = 11 ∨ k = 13 ∨ k = 14 ∨ k = 15 := by omega
  rcases cs with rfl | rfl | rfl | rfl | rfl | rfl | rfl | rfl | rfl | rfl | rfl | rfl
  · refine Ec.of (Nat.le_of_ble_eq_true rfl) ?_
    refine e_iload rfl rfl ?_
    refine e_tsw (n := 72) rfl (by decide) rfl ?_
    refine e_lload rfl rfl ?_
    refine e_lload rfl rfl ?_
    refine e_ladd rfl ?_
    exact Eg.ret rfl (by decide) rfl ⟨rfl, rfl⟩
  · refine Ec.of (Nat.le_of_ble_eq_true rfl) ?_
    refine e_iload rfl rfl ?_
    refine e_tsw (n := 76) rfl (by decide) rfl ?_
    refine e_lload rfl rfl ?_
    refine e_lload rfl rfl ?_
    refine e_lsub rfl ?_
    exact Eg.ret rfl (by decide) rfl ⟨rfl, rfl⟩
  · refine Ec.of (Nat.le_of_ble_eq_true rfl) ?_
    refine e_iload rfl rfl ?_
    refine e_tsw (n := 112) rfl (by decide) rfl ?_
    refine e_lload rfl rfl ?_
    refine e_lload rfl rfl ?_
    refine e_lcmp rfl ?_
    refine e_ifge_b rfl (fun b115x => ?_) (fun b115x => ?_)
    · refine e_ipush rfl ?_
      refine Eg.p1 rfl (by decide) (by decide) rfl (Nat.le_of_ble_eq_true rfl) (xrcv_ofs (Or.inl rfl)) (ms_truth0.mono (by decide)) ?_
      exact Eg.ret rfl (by decide) rfl ⟨congrArg (fun z => some (Value.long z)) (show _ = jn 4 a b from (if_neg (lg_ge0.mp b115x)).symm), rfl⟩
    · refine e_ipush rfl ?_
      refine e_goto rfl ?_
      refine Eg.p1 rfl (by decide) (by decide) rfl (Nat.le_of_ble_eq_true rfl) (xrcv_ofs (Or.inl rfl)) (ms_truth1.mono (by decide)) ?_
      exact Eg.ret rfl (by decide) rfl ⟨congrArg (fun z => some (Value.long z)) (show _ = jn 4 a b from (if_pos (Decidable.not_not.mp (fun q => b115x (lg_ge0.mpr q)))).symm), rfl⟩
  · refine Ec.of (Nat.le_of_ble_eq_true rfl) ?_
    refine e_iload rfl rfl ?_
    refine e_tsw (n := 127) rfl (by decide) rfl ?_
    refine e_lload rfl rfl ?_
    refine e_lload rfl rfl ?_
    refine e_lcmp rfl ?_
    refine e_ifgt_b rfl (fun b130x => ?_) (fun b130x => ?_)
    · refine e_ipush rfl ?_
      refine Eg.p1 rfl (by decide) (by decide) rfl (Nat.le_of_ble_eq_true rfl) (xrcv_ofs (Or.inl rfl)) (ms_truth0.mono (by decide)) ?_
      exact Eg.ret rfl (by decide) rfl ⟨congrArg (fun z => some (Value.long z)) (show _ = jn 5 a b from (if_pos ((lg_gt0 _ _).mp b130x)).symm), rfl⟩
    · refine e_ipush rfl ?_
      refine e_goto rfl ?_
      refine Eg.p1 rfl (by decide) (by decide) rfl (Nat.le_of_ble_eq_true rfl) (xrcv_ofs (Or.inl rfl)) (ms_truth1.mono (by decide)) ?_
      exact Eg.ret rfl (by decide) rfl ⟨congrArg (fun z => some (Value.long z)) (show _ = jn 5 a b from (if_neg (fun q => b130x ((lg_gt0 _ _).mpr q))).symm), rfl⟩
  · refine Ec.of (Nat.le_of_ble_eq_true rfl) ?_
    refine e_iload rfl rfl ?_
    refine e_tsw (n := 142) rfl (by decide) rfl ?_
    refine e_lload rfl rfl ?_
    refine e_lload rfl rfl ?_
    refine e_lcmp rfl ?_
    refine e_ifne_b rfl (fun b145x => ?_) (fun b145x => ?_)
    · refine e_ipush rfl ?_
      refine Eg.p1 rfl (by decide) (by decide) rfl (Nat.le_of_ble_eq_true rfl) (xrcv_ofs (Or.inl rfl)) (ms_truth0.mono (by decide)) ?_
      exact Eg.ret rfl (by decide) rfl ⟨congrArg (fun z => some (Value.long z)) (show _ = jn 6 a b from (if_neg (fun q => b145x (lg_eq0.mpr q))).symm), rfl⟩
    · refine e_ipush rfl ?_
      refine e_goto rfl ?_
      refine Eg.p1 rfl (by decide) (by decide) rfl (Nat.le_of_ble_eq_true rfl) (xrcv_ofs (Or.inl rfl)) (ms_truth1.mono (by decide)) ?_
      exact Eg.ret rfl (by decide) rfl ⟨congrArg (fun z => some (Value.long z)) (show _ = jn 6 a b from (if_pos (lg_eq0.mp b145x)).symm), rfl⟩
  · refine Ec.of (Nat.le_of_ble_eq_true rfl) ?_
    refine e_iload rfl rfl ?_
    refine e_tsw (n := 157) rfl (by decide) rfl ?_
    refine e_lload rfl rfl ?_
    refine e_lload rfl rfl ?_
    refine e_lcmp rfl ?_
    refine e_iflt_b rfl (fun b160x => ?_) (fun b160x => ?_)
    · refine e_ipush rfl ?_
      refine Eg.p1 rfl (by decide) (by decide) rfl (Nat.le_of_ble_eq_true rfl) (xrcv_ofs (Or.inl rfl)) (ms_truth0.mono (by decide)) ?_
      exact Eg.ret rfl (by decide) rfl ⟨congrArg (fun z => some (Value.long z)) (show _ = jn 7 a b from (if_pos ((lg_lt0 _ _).mp b160x)).symm), rfl⟩
    · refine e_ipush rfl ?_
      refine e_goto rfl ?_
      refine Eg.p1 rfl (by decide) (by decide) rfl (Nat.le_of_ble_eq_true rfl) (xrcv_ofs (Or.inl rfl)) (ms_truth1.mono (by decide)) ?_
      exact Eg.ret rfl (by decide) rfl ⟨congrArg (fun z => some (Value.long z)) (show _ = jn 7 a b from (if_neg (fun q => b160x ((lg_lt0 _ _).mpr q))).symm), rfl⟩
  · refine Ec.of (Nat.le_of_ble_eq_true rfl) ?_
    refine e_iload rfl rfl ?_
    refine e_tsw (n := 172) rfl (by decide) rfl ?_
    refine e_lload rfl rfl ?_
    refine e_lload rfl rfl ?_
    refine e_lcmp rfl ?_
    refine e_ifle_b rfl (fun b175x => ?_) (fun b175x => ?_)
    · refine e_ipush rfl ?_
      refine Eg.p1 rfl (by decide) (by decide) rfl (Nat.le_of_ble_eq_true rfl) (xrcv_ofs (Or.inl rfl)) (ms_truth0.mono (by decide)) ?_
      exact Eg.ret rfl (by decide) rfl ⟨congrArg (fun z => some (Value.long z)) (show _ = jn 8 a b from (if_neg (lg_le0.mp b175x)).symm), rfl⟩
    · refine e_ipush rfl ?_
      refine e_goto rfl ?_
      refine Eg.p1 rfl (by decide) (by decide) rfl (Nat.le_of_ble_eq_true rfl) (xrcv_ofs (Or.inl rfl)) (ms_truth1.mono (by decide)) ?_
      exact Eg.ret rfl (by decide) rfl ⟨congrArg (fun z => some (Value.long z)) (show _ = jn 8 a b from (if_pos (Decidable.not_not.mp (fun q => b175x (lg_le0.mpr q)))).symm), rfl⟩
  · refine Ec.of (Nat.le_of_ble_eq_true rfl) ?_
    refine e_iload rfl rfl ?_
    refine e_tsw (n := 187) rfl (by decide) rfl ?_
    refine e_lload rfl rfl ?_
    refine e_lload rfl rfl ?_
    refine e_land rfl ?_
    exact Eg.ret rfl (by decide) rfl ⟨rfl, rfl⟩
  · refine Ec.of (Nat.le_of_ble_eq_true rfl) ?_
    refine e_iload rfl rfl ?_
    refine e_tsw (n := 191) rfl (by decide) rfl ?_
    refine e_lload rfl rfl ?_
    refine e_lload rfl rfl ?_
    refine e_lor rfl ?_
    exact Eg.ret rfl (by decide) rfl ⟨rfl, rfl⟩
  · refine Ec.of (Nat.le_of_ble_eq_true rfl) ?_
    refine e_iload rfl rfl ?_
    refine e_tsw (n := 80) rfl (by decide) rfl ?_
    refine e_lload rfl rfl ?_
    refine e_lload rfl rfl ?_
    refine e_lmul rfl ?_
    exact Eg.ret rfl (by decide) rfl ⟨rfl, rfl⟩
  · refine Ec.of (Nat.le_of_ble_eq_true rfl) ?_
    refine e_iload rfl rfl ?_
    refine e_tsw (n := 84) rfl (by decide) rfl ?_
    refine e_lload rfl rfl ?_
    refine e_lpush rfl ?_
    refine e_lcmp rfl ?_
    refine e_ifne_b rfl (fun b87x => ?_) (fun b87x => ?_)
    · refine e_lload rfl rfl ?_
      refine e_lload rfl rfl ?_
      refine e_ldiv rfl (fun q => b87x (lg_eq0.mpr q)) ?_
      exact Eg.ret rfl (by decide) rfl ⟨congrArg (fun z => some (Value.long z)) (show _ = jn 14 a b from (if_neg (fun q => b87x (lg_eq0.mpr q))).symm), rfl⟩
    · refine e_lpush rfl ?_
      refine e_goto rfl ?_
      exact Eg.ret rfl (by decide) rfl ⟨congrArg (fun z => some (Value.long z)) (show _ = jn 14 a b from (if_pos (lg_eq0.mp b87x)).symm), rfl⟩
  · refine Ec.of (Nat.le_of_ble_eq_true rfl) ?_
    refine e_iload rfl rfl ?_
    refine e_tsw (n := 98) rfl (by decide) rfl ?_
    refine e_lload rfl rfl ?_
    refine e_lpush rfl ?_
    refine e_lcmp rfl ?_
    refine e_ifne_b rfl (fun b101x => ?_) (fun b101x => ?_)
    · refine e_lload rfl rfl ?_
      refine e_lload rfl rfl ?_
      refine e_lrem rfl (fun q => b101x (lg_eq0.mpr q)) ?_
      exact Eg.ret rfl (by decide) rfl ⟨congrArg (fun z => some (Value.long z)) (show _ = jn 15 a b from (if_neg (fun q => b101x (lg_eq0.mpr q))).symm), rfl⟩
    · refine e_lpush rfl ?_
      refine e_goto rfl ?_
      exact Eg.ret rfl (by decide) rfl ⟨congrArg (fun z => some (Value.long z)) (show _ = jn 15 a b from (if_pos (lg_eq0.mp b101x)).symm), rfl⟩
theorem cs_joined {k : Nat} (hk : 2 ≤ k ∧ k ≤ 15 ∧ k ≠ 9 ∧ k ≠ 12) {a b : Int64} : Ec X 2 8 [.int (pcE (k, 0)), .long a, .long b] h (fun r h' => r = some (.long (jn k a b)) ∧ h' = h) := by
  have cs : k = 2 ∨ k = 3 ∨ k = 4 ∨ k = 5 ∨ k = 6 ∨ k = 7 ∨ k = 8 ∨ k = 10 ∨ k = 11 ∨ k = 13 ∨ k = 14 ∨ k = 15 := by omega
  rcases cs with rfl | rfl | rfl | rfl | rfl | rfl | rfl | rfl | rfl | rfl | rfl | rfl
  · refine Ec.of (Nat.le_of_ble_eq_true rfl) ?_
    refine e_iload rfl rfl ?_
    refine e_lswn (m := 100) rfl (by decide) ?_
    refine e_lload rfl rfl ?_
    refine e_lload rfl rfl ?_
    refine e_ladd rfl ?_
    exact Eg.ret rfl (by decide) rfl ⟨rfl, rfl⟩
  · refine Ec.of (Nat.le_of_ble_eq_true rfl) ?_
    refine e_iload rfl rfl ?_
    refine e_lswn (m := 104) rfl (by decide) ?_
    refine e_lload rfl rfl ?_
    refine e_lload rfl rfl ?_
    refine e_lsub rfl ?_
    exact Eg.ret rfl (by decide) rfl ⟨rfl, rfl⟩
  · refine Ec.of (Nat.le_of_ble_eq_true rfl) ?_
    refine e_iload rfl rfl ?_
    refine e_lswn (m := 140) rfl (by decide) ?_
    refine e_lload rfl rfl ?_
    refine e_lload rfl rfl ?_
    refine e_lcmp rfl ?_
    refine e_ifge_b rfl (fun b143x => ?_) (fun b143x => ?_)
    · refine e_lpush rfl ?_
      exact Eg.ret rfl (by decide) rfl ⟨congrArg (fun z => some (Value.long z)) (show _ = jn 4 a b from (if_neg (lg_ge0.mp b143x)).symm), rfl⟩
    · refine e_lpush rfl ?_
      refine e_goto rfl ?_
      exact Eg.ret rfl (by decide) rfl ⟨congrArg (fun z => some (Value.long z)) (show _ = jn 4 a b from (if_pos (Decidable.not_not.mp (fun q => b143x (lg_ge0.mpr q)))).symm), rfl⟩
  · refine Ec.of (Nat.le_of_ble_eq_true rfl) ?_
    refine e_iload rfl rfl ?_
    refine e_lswn (m := 152) rfl (by decide) ?_
    refine e_lload rfl rfl ?_
    refine e_lload rfl rfl ?_
    refine e_lcmp rfl ?_
    refine e_ifgt_b rfl (fun b155x => ?_) (fun b155x => ?_)
    · refine e_lpush rfl ?_
      exact Eg.ret rfl (by decide) rfl ⟨congrArg (fun z => some (Value.long z)) (show _ = jn 5 a b from (if_pos ((lg_gt0 _ _).mp b155x)).symm), rfl⟩
    · refine e_lpush rfl ?_
      refine e_goto rfl ?_
      exact Eg.ret rfl (by decide) rfl ⟨congrArg (fun z => some (Value.long z)) (show _ = jn 5 a b from (if_neg (fun q => b155x ((lg_gt0 _ _).mpr q))).symm), rfl⟩
  · refine Ec.of (Nat.le_of_ble_eq_true rfl) ?_
    refine e_iload rfl rfl ?_
    refine e_lswn (m := 164) rfl (by decide) ?_
    refine e_lload rfl rfl ?_
    refine e_lload rfl rfl ?_
    refine e_lcmp rfl ?_
    refine e_ifne_b rfl (fun b167x => ?_) (fun b167x => ?_)
    · refine e_lpush rfl ?_
      exact Eg.ret rfl (by decide) rfl ⟨congrArg (fun z => some (Value.long z)) (show _ = jn 6 a b from (if_neg (fun q => b167x (lg_eq0.mpr q))).symm), rfl⟩
    · refine e_lpush rfl ?_
      refine e_goto rfl ?_
      exact Eg.ret rfl (by decide) rfl ⟨congrArg (fun z => some (Value.long z)) (show _ = jn 6 a b from (if_pos (lg_eq0.mp b167x)).symm), rfl⟩
  · refine Ec.of (Nat.le_of_ble_eq_true rfl) ?_
    refine e_iload rfl rfl ?_
    refine e_lswn (m := 176) rfl (by decide) ?_
    refine e_lload rfl rfl ?_
    refine e_lload rfl rfl ?_
    refine e_lcmp rfl ?_
    refine e_iflt_b rfl (fun b179x => ?_) (fun b179x => ?_)
    · refine e_lpush rfl ?_
      exact Eg.ret rfl (by decide) rfl ⟨congrArg (fun z => some (Value.long z)) (show _ = jn 7 a b from (if_pos ((lg_lt0 _ _).mp b179x)).symm), rfl⟩
    · refine e_lpush rfl ?_
      refine e_goto rfl ?_
      exact Eg.ret rfl (by decide) rfl ⟨congrArg (fun z => some (Value.long z)) (show _ = jn 7 a b from (if_neg (fun q => b179x ((lg_lt0 _ _).mpr q))).symm), rfl⟩
  · refine Ec.of (Nat.le_of_ble_eq_true rfl) ?_
    refine e_iload rfl rfl ?_
    refine e_lswn (m := 188) rfl (by decide) ?_
    refine e_lload rfl rfl ?_
    refine e_lload rfl rfl ?_
    refine e_lcmp rfl ?_
    refine e_ifle_b rfl (fun b191x => ?_) (fun b191x => ?_)
    · refine e_lpush rfl ?_
      exact Eg.ret rfl (by decide) rfl ⟨congrArg (fun z => some (Value.long z)) (show _ = jn 8 a b from (if_neg (lg_le0.mp b191x)).symm), rfl⟩
    · refine e_lpush rfl ?_
      refine e_goto rfl ?_
      exact Eg.ret rfl (by decide) rfl ⟨congrArg (fun z => some (Value.long z)) (show _ = jn 8 a b from (if_pos (Decidable.not_not.mp (fun q => b191x (lg_le0.mpr q)))).symm), rfl⟩
  · refine Ec.of (Nat.le_of_ble_eq_true rfl) ?_
    refine e_iload rfl rfl ?_
    refine e_lswn (m := 200) rfl (by decide) ?_
    refine e_lload rfl rfl ?_
    refine e_lload rfl rfl ?_
    refine e_land rfl ?_
    exact Eg.ret rfl (by decide) rfl ⟨rfl, rfl⟩
  · refine Ec.of (Nat.le_of_ble_eq_true rfl) ?_
    refine e_iload rfl rfl ?_
    refine e_lswn (m := 204) rfl (by decide) ?_
    refine e_lload rfl rfl ?_
    refine e_lload rfl rfl ?_
    refine e_lor rfl ?_
    exact Eg.ret rfl (by decide) rfl ⟨rfl, rfl⟩
  · refine Ec.of (Nat.le_of_ble_eq_true rfl) ?_
    refine e_iload rfl rfl ?_
    refine e_lswn (m := 108) rfl (by decide) ?_
    refine e_lload rfl rfl ?_
    refine e_lload rfl rfl ?_
    refine e_lmul rfl ?_
    exact Eg.ret rfl (by decide) rfl ⟨rfl, rfl⟩
  · refine Ec.of (Nat.le_of_ble_eq_true rfl) ?_
    refine e_iload rfl rfl ?_
    refine e_lswn (m := 112) rfl (by decide) ?_
    refine e_lload rfl rfl ?_
    refine e_lpush rfl ?_
    refine e_lcmp rfl ?_
    refine e_ifne_b rfl (fun b115x => ?_) (fun b115x => ?_)
    · refine e_lload rfl rfl ?_
      refine e_lload rfl rfl ?_
      refine e_ldiv rfl (fun q => b115x (lg_eq0.mpr q)) ?_
      exact Eg.ret rfl (by decide) rfl ⟨congrArg (fun z => some (Value.long z)) (show _ = jn 14 a b from (if_neg (fun q => b115x (lg_eq0.mpr q))).symm), rfl⟩
    · refine e_lpush rfl ?_
      refine e_goto rfl ?_
      exact Eg.ret rfl (by decide) rfl ⟨congrArg (fun z => some (Value.long z)) (show _ = jn 14 a b from (if_pos (lg_eq0.mp b115x)).symm), rfl⟩
  · refine Ec.of (Nat.le_of_ble_eq_true rfl) ?_
    refine e_iload rfl rfl ?_
    refine e_lswn (m := 126) rfl (by decide) ?_
    refine e_lload rfl rfl ?_
    refine e_lpush rfl ?_
    refine e_lcmp rfl ?_
    refine e_ifne_b rfl (fun b129x => ?_) (fun b129x => ?_)
    · refine e_lload rfl rfl ?_
      refine e_lload rfl rfl ?_
      refine e_lrem rfl (fun q => b129x (lg_eq0.mpr q)) ?_
      exact Eg.ret rfl (by decide) rfl ⟨congrArg (fun z => some (Value.long z)) (show _ = jn 15 a b from (if_neg (fun q => b129x (lg_eq0.mpr q))).symm), rfl⟩
    · refine e_lpush rfl ?_
      refine e_goto rfl ?_
      exact Eg.ret rfl (by decide) rfl ⟨congrArg (fun z => some (Value.long z)) (show _ = jn 15 a b from (if_pos (lg_eq0.mp b129x)).symm), rfl⟩
theorem stk_up {M M1x : Nat → Nat → Int64} {c n m t : Nat} {S : Nat → Int64} {x : Int64} (h : ∀ j, j < n → M c j = S j) (g : M1x c t = x) (f : ∀ p r, p ≠ c ∨ r ≠ t → M1x p r = M p r) (hm : m ≤ n ∨ (m = n + 1 ∧ t = n)) : ∀ j, j < m → M1x c j = upL S t x j := by
  intro j hj
  by_cases e : j = t
  · rw [e, upL_at]; exact g
  · rw [upL_o e, f c j (Or.inr e)]; exact h j (by omega)
theorem nI_dn {a : Nat} (h : 1 ≤ a) : nI a + -1 = nI (a - 1) := by
  rw [← nI_sub h]; show nI a + -1 = nI a - 1; grind
theorem evE_k {W : Nat → Int64} {k y : Nat} {z : eS} (h : 2 ≤ k) (h9x : k ≠ 9) : evE W (k, y) z = (z.1 - 1, upL z.2 (z.1 - 2) (jn k (z.2 (z.1 - 2)) (z.2 (z.1 - 1)))) := by
  unfold evE; rw [if_neg (by show ¬ k = 0; omega), if_neg (by show ¬ k = 1; omega), if_neg h9x]
theorem ms_answer (hM : MW sh R) {W : Nat → Int64} {cd : List (Nat × Nat)} {a b : Nat} {x : Bool} (hri : ri < 6) (hcd : ∀ k e, cd[k]? = some e → I 338 (300 * ri + k) = nI e.1 ∧ I 339 (300 * ri + k) = nI e.2) (hl : cd.length ≤ 300) (hv : ∀ e ∈ cd, vE e) (h6x : nv cd ≤ 60) (hab : a ≤ b) (hb : b ≤ cd.length) (hs : tev (cseg cd a b) [] = some [x]) (hW : ∀ k, k < 11 → L 346 k = W k) : Ec X 3 232 [.ref 290, .int (nI ri), .int (nI a), .int (nI b)] (sh, I, L, R) (fun r h' => r = some (.long (evV W cd a b)) ∧ ∃ M : Nat → Nat → Int64, h' = (sh, I, M, R) ∧ ∀ p q, p ≠ 347 → M p q = L p q) := by
  refine Ec.of (Nat.le_of_ble_eq_true rfl) ?_
  refine e_ipush rfl ?_
  refine e_istore rfl ?_
  refine e_iload rfl rfl ?_
  refine e_istore rfl ?_
  refine Eg.pk [0, 1, 3, 4, 5] [5, 4, 0, 1, 2, 3] rfl (by decide) ?_
  have key : ∀ i, i ≤ b → a ≤ i → ∀ M : Nat → Nat → Int64, (∀ j, j < (evA W cd a i).1 → M 347 j = (evA W cd a i).2 j) → (∀ p q, p ≠ 347 → M p q = L p q) → Eg X xTc 2 232 6 [(0, .ref 290), (1, .int (nI ri)), (3, .int (nI b)), (4, .int (nI (evA W cd a i).1)), (5, .int (nI i))] [] (sh, I, M, R) (fun r h' => r = some (.long (evV W cd a b)) ∧ ∃ M : Nat → Nat → Int64, h' = (sh, I, M, R) ∧ ∀ p q, p ≠ 347 → M p q = L p q) := by
    intro i hib
    refine up_ind (p := fun i => a ≤ i → ∀ M : Nat → Nat → Int64, (∀ j, j < (evA W cd a i).1 → M 347 j = (evA W cd a i).2 j) → (∀ p q, p ≠ 347 → M p q = L p q) → Eg X xTc 2 232 6 [(0, .ref 290), (1, .int (nI ri)), (3, .int (nI b)), (4, .int (nI (evA W cd a i).1)), (5, .int (nI i))] [] (sh, I, M, R) (fun r h' => r = some (.long (evV W cd a b)) ∧ ∃ M : Nat → Nat → Int64, h' = (sh, I, M, R) ∧ ∀ p q, p ≠ 347 → M p q = L p q)) (n := b) (j := i) (fun i hi ih hai M m1x m2x => ?_) (fun hai M m1x m2x => ?_) hib
    · obtain ⟨⟨k, y⟩, he⟩ : ∃ e, cd[i]? = some e := ⟨cd[i]'(by omega), List.getElem?_eq_getElem (by omega)⟩
      obtain ⟨z1x, z2x, z3x, ve⟩ := ev_step (W := W) hs hv h6x hb hai hi he
      have ez := evA_s (W := W) hai he
      have ih := ih (by omega)
      rw [ez] at ih
      generalize evA W cd a i = z at z1x z2x z3x ih m1x ez ⊢
      obtain ⟨c1x, c2x⟩ := hcd i _ he
      replace c1x : I 338 (300 * ri + i) = nI k := c1x
      replace c2x : I 339 (300 * ri + i) = nI y := c2x
      have kc : k = 0 ∨ (k = 1 ∧ y < 11) ∨ k = 9 ∨ (2 ≤ k ∧ k ≤ 15 ∧ k ≠ 9 ∧ k ≠ 12) := by
        rcases ve with ⟨q, _⟩ | ⟨q, q'⟩ | ⟨q1x, q2x, q3x, _⟩
        · exact Or.inl q
        · exact Or.inr (Or.inl ⟨q, q'⟩)
        · have : 2 ≤ k := q1x
          have : k ≤ 15 := q2x
          have : k ≠ 12 := q3x
          omega
      rcases kc with rfl | ⟨rfl, y11x⟩ | rfl | hk
      · have z2x := z2x (Nat.zero_le _)
        refine e_iload rfl rfl ?_
        refine e_iload rfl rfl ?_
        refine e_cge_f rfl (nI_ge hi (by omega)) ?_
        refine e_aload rfl rfl ?_
        refine e_getR rfl hM.1 (show R 290 59 = some 338 from (hM.2 47 _ rfl).2) ?_
        refine e_ipush rfl ?_
        refine e_iload rfl rfl ?_
        refine e_imul rfl ?_
        rw [show 300 * (nI ri) = nI (300 * ri) from (nI_times 300 ri)]
        refine e_iload rfl rfl ?_
        refine e_iadd rfl ?_
        rw [show (nI (300 * ri)) + (nI i) = nI (300 * ri + i) from (nI_add _ _)]
        refine e_ialv (t := 300 * ri + i) (n := 1800) rfl (show sh[338]? = some (20, 1800) from (hM.2 47 _ rfl).1) rfl (by omega) (by decide) c1x ?_
        refine e_istore rfl ?_
        refine e_aload rfl rfl ?_
        refine e_getR rfl hM.1 (show R 290 60 = some 339 from (hM.2 48 _ rfl).2) ?_
        refine e_ipush rfl ?_
        refine e_iload rfl rfl ?_
        refine e_imul rfl ?_
        rw [show 300 * (nI ri) = nI (300 * ri) from (nI_times 300 ri)]
        refine e_iload rfl rfl ?_
        refine e_iadd rfl ?_
        rw [show (nI (300 * ri)) + (nI i) = nI (300 * ri + i) from (nI_add _ _)]
        refine e_ialv (t := 300 * ri + i) (n := 1800) rfl (show sh[339]? = some (20, 1800) from (hM.2 48 _ rfl).1) rfl (by omega) (by decide) c2x ?_
        refine e_istore rfl ?_
        refine e_iload rfl rfl ?_
        refine e_ifeq_t rfl rfl ?_
        refine e_aload rfl rfl ?_
        refine e_getR rfl hM.1 (show R 290 68 = some 347 from (hM.2 56 _ rfl).2) ?_
        refine e_iload rfl rfl ?_
        refine e_iload rfl rfl ?_
        refine e_ifne_f rfl rfl ?_
        refine e_iload rfl rfl ?_
        refine e_i2l rfl ?_
        refine e_goto rfl ?_
        refine e_lasJ (t := z.1) (n := 300) rfl (show sh[347]? = some (21, 300) from (hM.2 56 _ rfl).1) rfl (by omega) (by decide) (fun M1x gm1x fm1x => ?_)
        refine e_iinc rfl rfl ?_
        refine e_goto rfl ?_
        refine e_iinc rfl rfl ?_
        refine e_goto rfl ?_
        refine Eg.pk [0, 1, 3, 4, 5] [5, 4, 7, 6, 0, 1, 3] rfl (by decide) ?_
        rw [nI_1]
        rw [nI_1]
        exact ih M1x (stk_up m1x gm1x fm1x (Or.inr ⟨rfl, rfl⟩)) (fun p q r => (fm1x p q (Or.inl r)).trans (m2x p q r))
      · have z2x := z2x (Nat.le_refl _)
        refine e_iload rfl rfl ?_
        refine e_iload rfl rfl ?_
        refine e_cge_f rfl (nI_ge hi (by omega)) ?_
        refine e_aload rfl rfl ?_
        refine e_getR rfl hM.1 (show R 290 59 = some 338 from (hM.2 47 _ rfl).2) ?_
        refine e_ipush rfl ?_
        refine e_iload rfl rfl ?_
        refine e_imul rfl ?_
        rw [show 300 * (nI ri) = nI (300 * ri) from (nI_times 300 ri)]
        refine e_iload rfl rfl ?_
        refine e_iadd rfl ?_
        rw [show (nI (300 * ri)) + (nI i) = nI (300 * ri + i) from (nI_add _ _)]
        refine e_ialv (t := 300 * ri + i) (n := 1800) rfl (show sh[338]? = some (20, 1800) from (hM.2 47 _ rfl).1) rfl (by omega) (by decide) c1x ?_
        refine e_istore rfl ?_
        refine e_aload rfl rfl ?_
        refine e_getR rfl hM.1 (show R 290 60 = some 339 from (hM.2 48 _ rfl).2) ?_
        refine e_ipush rfl ?_
        refine e_iload rfl rfl ?_
        refine e_imul rfl ?_
        rw [show 300 * (nI ri) = nI (300 * ri) from (nI_times 300 ri)]
        refine e_iload rfl rfl ?_
        refine e_iadd rfl ?_
        rw [show (nI (300 * ri)) + (nI i) = nI (300 * ri + i) from (nI_add _ _)]
        refine e_ialv (t := 300 * ri + i) (n := 1800) rfl (show sh[339]? = some (20, 1800) from (hM.2 48 _ rfl).1) rfl (by omega) (by decide) c2x ?_
        refine e_istore rfl ?_
        refine e_iload rfl rfl ?_
        refine e_ifeq_f rfl (by decide) ?_
        refine e_iload rfl rfl ?_
        refine e_ipush rfl ?_
        refine e_cne_f rfl rfl ?_
        refine e_aload rfl rfl ?_
        refine e_getR rfl hM.1 (show R 290 68 = some 347 from (hM.2 56 _ rfl).2) ?_
        refine e_iload rfl rfl ?_
        refine e_iload rfl rfl ?_
        refine e_ifne_t rfl (by decide) ?_
        refine e_aload rfl rfl ?_
        refine e_getR rfl hM.1 (show R 290 67 = some 346 from (hM.2 55 _ rfl).2) ?_
        refine e_iload rfl rfl ?_
        refine e_lalv (t := y) (n := 11) rfl (show sh[346]? = some (21, 11) from (hM.2 55 _ rfl).1) rfl (by omega) (by decide) ((m2x 346 y (by decide)).trans (hW y y11x)) ?_
        refine e_lasJ (t := z.1) (n := 300) rfl (show sh[347]? = some (21, 300) from (hM.2 56 _ rfl).1) rfl (by omega) (by decide) (fun M1x gm1x fm1x => ?_)
        refine e_iinc rfl rfl ?_
        refine e_goto rfl ?_
        refine e_iinc rfl rfl ?_
        refine e_goto rfl ?_
        refine Eg.pk [0, 1, 3, 4, 5] [5, 4, 7, 6, 0, 1, 3] rfl (by decide) ?_
        rw [nI_1]
        rw [nI_1]
        exact ih M1x (stk_up m1x gm1x fm1x (Or.inr ⟨rfl, rfl⟩)) (fun p q r => (fm1x p q (Or.inl r)).trans (m2x p q r))
      · obtain ⟨z4x, z5x⟩ := z3x.1 rfl
        refine e_iload rfl rfl ?_
        refine e_iload rfl rfl ?_
        refine e_cge_f rfl (nI_ge hi (by omega)) ?_
        refine e_aload rfl rfl ?_
        refine e_getR rfl hM.1 (show R 290 59 = some 338 from (hM.2 47 _ rfl).2) ?_
        refine e_ipush rfl ?_
        refine e_iload rfl rfl ?_
        refine e_imul rfl ?_
        rw [show 300 * (nI ri) = nI (300 * ri) from (nI_times 300 ri)]
        refine e_iload rfl rfl ?_
        refine e_iadd rfl ?_
        rw [show (nI (300 * ri)) + (nI i) = nI (300 * ri + i) from (nI_add _ _)]
        refine e_ialv (t := 300 * ri + i) (n := 1800) rfl (show sh[338]? = some (20, 1800) from (hM.2 47 _ rfl).1) rfl (by omega) (by decide) c1x ?_
        refine e_istore rfl ?_
        refine e_aload rfl rfl ?_
        refine e_getR rfl hM.1 (show R 290 60 = some 339 from (hM.2 48 _ rfl).2) ?_
        refine e_ipush rfl ?_
        refine e_iload rfl rfl ?_
        refine e_imul rfl ?_
        rw [show 300 * (nI ri) = nI (300 * ri) from (nI_times 300 ri)]
        refine e_iload rfl rfl ?_
        refine e_iadd rfl ?_
        rw [show (nI (300 * ri)) + (nI i) = nI (300 * ri + i) from (nI_add _ _)]
        refine e_ialv (t := 300 * ri + i) (n := 1800) rfl (show sh[339]? = some (20, 1800) from (hM.2 48 _ rfl).1) rfl (by omega) (by decide) c2x ?_
        refine e_istore rfl ?_
        refine e_iload rfl rfl ?_
        refine e_ifeq_f rfl (by decide) ?_
        refine e_iload rfl rfl ?_
        refine e_ipush rfl ?_
        refine e_cne_t rfl (by decide) ?_
        refine e_iload rfl rfl ?_
        refine e_ipush rfl ?_
        refine e_cne_f rfl rfl ?_
        refine e_aload rfl rfl ?_
        refine e_getR rfl hM.1 (show R 290 68 = some 347 from (hM.2 56 _ rfl).2) ?_
        refine e_iload rfl rfl ?_
        refine e_ipush rfl ?_
        refine e_isub rfl ?_
        rw [show (nI z.1) - 1 = nI (z.1 - 1) from (nI_sub (b := 1) z4x)]
        refine e_lpush rfl ?_
        refine e_aload rfl rfl ?_
        refine e_getR rfl hM.1 (show R 290 68 = some 347 from (hM.2 56 _ rfl).2) ?_
        refine e_iload rfl rfl ?_
        refine e_ipush rfl ?_
        refine e_isub rfl ?_
        rw [show (nI z.1) - 1 = nI (z.1 - 1) from (nI_sub (b := 1) z4x)]
        refine e_lalv (t := (z.1 - 1)) (n := 300) rfl (show sh[347]? = some (21, 300) from (hM.2 56 _ rfl).1) rfl (by omega) (by decide) (m1x (z.1 - 1) (by omega)) ?_
        refine e_lsub rfl ?_
        refine e_lasJ (t := (z.1 - 1)) (n := 300) rfl (show sh[347]? = some (21, 300) from (hM.2 56 _ rfl).1) rfl (by omega) (by decide) (fun M1x gm1x fm1x => ?_)
        refine e_goto rfl ?_
        refine e_iinc rfl rfl ?_
        refine e_goto rfl ?_
        refine Eg.pk [0, 1, 3, 4, 5] [5, 7, 6, 0, 1, 3, 4] rfl (by decide) ?_
        rw [nI_1]
        exact ih M1x (stk_up m1x gm1x fm1x (Or.inl (Nat.le_refl _))) (fun p q r => (fm1x p q (Or.inl r)).trans (m2x p q r))
      · have z4x := z3x.2 hk.1 hk.2.2.1
        rw [evE_k hk.1 hk.2.2.1] at ih
        refine e_iload rfl rfl ?_
        refine e_iload rfl rfl ?_
        refine e_cge_f rfl (nI_ge hi (by omega)) ?_
        refine e_aload rfl rfl ?_
        refine e_getR rfl hM.1 (show R 290 59 = some 338 from (hM.2 47 _ rfl).2) ?_
        refine e_ipush rfl ?_
        refine e_iload rfl rfl ?_
        refine e_imul rfl ?_
        rw [show 300 * (nI ri) = nI (300 * ri) from (nI_times 300 ri)]
        refine e_iload rfl rfl ?_
        refine e_iadd rfl ?_
        rw [show (nI (300 * ri)) + (nI i) = nI (300 * ri + i) from (nI_add _ _)]
        refine e_ialv (t := 300 * ri + i) (n := 1800) rfl (show sh[338]? = some (20, 1800) from (hM.2 47 _ rfl).1) rfl (by omega) (by decide) c1x ?_
        refine e_istore rfl ?_
        refine e_aload rfl rfl ?_
        refine e_getR rfl hM.1 (show R 290 60 = some 339 from (hM.2 48 _ rfl).2) ?_
        refine e_ipush rfl ?_
        refine e_iload rfl rfl ?_
        refine e_imul rfl ?_
        rw [show 300 * (nI ri) = nI (300 * ri) from (nI_times 300 ri)]
        refine e_iload rfl rfl ?_
        refine e_iadd rfl ?_
        rw [show (nI (300 * ri)) + (nI i) = nI (300 * ri + i) from (nI_add _ _)]
        refine e_ialv (t := 300 * ri + i) (n := 1800) rfl (show sh[339]? = some (20, 1800) from (hM.2 48 _ rfl).1) rfl (by omega) (by decide) c2x ?_
        refine e_istore rfl ?_
        refine e_iload rfl rfl ?_
        refine e_ifeq_f rfl (nI_ne0 (by omega) (by omega)) ?_
        refine e_iload rfl rfl ?_
        refine e_ipush rfl ?_
        refine e_cne_t rfl (fun q => absurd ((nI_eq (b := 1) (by omega) (by decide)).mp q) (by omega)) ?_
        refine e_iload rfl rfl ?_
        refine e_ipush rfl ?_
        refine e_cne_t rfl (fun q => absurd ((nI_eq (b := 9) (by omega) (by decide)).mp q) (by omega)) ?_
        refine e_iinc rfl rfl ?_
        rw [nI_dn (by omega)]
        refine e_aload rfl rfl ?_
        refine e_getR rfl hM.1 (show R 290 68 = some 347 from (hM.2 56 _ rfl).2) ?_
        refine e_iload rfl rfl ?_
        refine e_ipush rfl ?_
        refine e_isub rfl ?_
        rw [show (nI (z.1 - 1)) - 1 = nI (z.1 - 2) from (nI_sub (a := z.1 - 1) (b := 1) (by omega))]
        refine e_iload rfl rfl ?_
        refine e_aload rfl rfl ?_
        refine e_getR rfl hM.1 (show R 290 68 = some 347 from (hM.2 56 _ rfl).2) ?_
        refine e_iload rfl rfl ?_
        refine e_ipush rfl ?_
        refine e_isub rfl ?_
        rw [show (nI (z.1 - 1)) - 1 = nI (z.1 - 2) from (nI_sub (a := z.1 - 1) (b := 1) (by omega))]
        refine e_lalv (t := (z.1 - 2)) (n := 300) rfl (show sh[347]? = some (21, 300) from (hM.2 56 _ rfl).1) rfl (by omega) (by decide) (m1x (z.1 - 2) (by omega)) ?_
        refine e_aload rfl rfl ?_
        refine e_getR rfl hM.1 (show R 290 68 = some 347 from (hM.2 56 _ rfl).2) ?_
        refine e_iload rfl rfl ?_
        refine e_lalv (t := (z.1 - 1)) (n := 300) rfl (show sh[347]? = some (21, 300) from (hM.2 56 _ rfl).1) rfl (by omega) (by decide) (m1x (z.1 - 1) (by omega)) ?_
        refine Eg.p3 rfl (by decide) (by decide) rfl (Nat.le_of_ble_eq_true rfl) (xrcv_ofs (Or.inl rfl)) ((ms_both hk).mono (by decide)) ?_
        refine e_lasJ (t := (z.1 - 2)) (n := 300) rfl (show sh[347]? = some (21, 300) from (hM.2 56 _ rfl).1) rfl (by omega) (by decide) (fun M1x gm1x fm1x => ?_)
        refine e_iinc rfl rfl ?_
        refine e_goto rfl ?_
        refine Eg.pk [0, 1, 3, 4, 5] [5, 4, 7, 6, 0, 1, 3] rfl (by decide) ?_
        rw [nI_1]
        exact ih M1x (stk_up m1x gm1x fm1x (Or.inl (by show z.1 - 1 ≤ z.1; omega))) (fun p q r => (fm1x p q (Or.inl r)).trans (m2x p q r))
    · obtain ⟨e1x, -⟩ := ev_end (W := W) hs hv
      refine e_iload rfl rfl ?_
      refine e_iload rfl rfl ?_
      refine e_cge_t rfl (Int32.le_refl _) ?_
      refine e_aload rfl rfl ?_
      refine e_getR rfl hM.1 (show R 290 68 = some 347 from (hM.2 56 _ rfl).2) ?_
      refine e_ipush rfl ?_
      refine e_lalv (t := 0) (n := 300) rfl (show sh[347]? = some (21, 300) from (hM.2 56 _ rfl).1) rfl (by decide) (by decide) (m1x 0 (by rw [e1x]; decide)) ?_
      exact Eg.ret rfl (by decide) rfl ⟨rfl, M, rfl, m2x⟩
  have k0x := key a hab (Nat.le_refl _) L (fun j q => by rw [evA_0] at q; exact absurd q (Nat.not_lt_zero _)) (fun _ _ _ => rfl)
  rw [evA_0] at k0x
  exact k0x
end EW
