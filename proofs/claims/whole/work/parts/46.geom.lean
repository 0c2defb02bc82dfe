/-! HEIGHTS, the reference -/
section GM
variable {X : xX} {h : xH} {sh : List (Nat × Nat)} {I : Nat → Nat → Int32} {L : Nat → Nat → Int64} {R : Nat → Nat → Option Nat} {v : Nat → Nat → Int32}
theorem yn_1 {p : Prop} [Decidable p] : yn p = 1 ↔ p := by unfold yn; split <;> simp_all
theorem i64_lt {x y : Int32} : x.toInt64 < y.toInt64 ↔ x < y := by
  rw [Int64.lt_iff_toInt_lt, Int32.toInt_toInt64, Int32.toInt_toInt64, Int32.lt_iff_toInt_lt]
theorem ms_inv {a lo hi : Int64} {x y z : Int32} (ea : a = x.toInt64) (el : lo = y.toInt64) (eh : hi = z.toInt64) : Ec X 1 182 [.long a, .long lo, .long hi] h (fun r h' => r = some (.int (yn (¬ (x < y ∨ z < x)))) ∧ h' = h) := by
  have hh := ms_in (X := X) (h := h) (n := a) (lo := lo) (hi := hi)
  rw [ite_yn] at hh
  subst ea; subst el; subst eh
  rw [yn_iff (q := ¬ (x < y ∨ z < x)) (by rw [i64_lt, i64_lt])] at hh
  exact hh
theorem nI_m1 {n : Nat} {x : Int32} (hn : n < 2 ^ 31) : nI n - 1 < x ↔ nI n ≤ x := by
  rw [Int32.lt_iff_toInt_lt, Int32.le_iff_toInt_le, Int32.toInt_sub, nI_toInt hn]
  have e : (1 : Int32).toInt = 1 := by decide
  rw [e, Int.bmod_eq_of_le (by omega) (by omega)]
  omega
theorem out_m1 {n : Nat} {x : Int32} (hn : n < 2 ^ 31) : (¬ (x < 0 ∨ nI n - 1 < x)) ↔ ¬ (x < 0 ∨ nI n ≤ x) := by rw [nI_m1 hn]
theorem ms_isCell (hM : MW sh R) (hv : mV I v) (hw : Wf v) {x : Int32} : Ec X 2 186 [.ref 290, .int x] (sh, I, L, R) (fun r h' => r = some (.int (yn (¬ (x < 0 ∨ nI (cn v 0) ≤ x)))) ∧ h' = (sh, I, L, R)) := by
  have hb := hw.1.2
  refine Ec.of (Nat.le_of_ble_eq_true rfl) ?_
  refine e_iload rfl rfl ?_
  refine e_i2l rfl ?_
  refine e_lpush rfl ?_
  refine e_aload rfl rfl ?_
  refine e_getR rfl hM.1 (hM.2 0 _ rfl).2 ?_
  refine e_ipush rfl ?_
  refine e_ialv (t := 0) (n := 14) rfl (hM.2 0 _ rfl).1 rfl (by decide) (by decide) (hv.n hw (j := 0) (by decide)) ?_
  refine e_ipush rfl ?_
  refine e_isub rfl ?_
  refine e_i2l rfl ?_
  refine Eg.p3 rfl (by decide) (by decide) rfl (Nat.le_of_ble_eq_true rfl) (xrcv_ofs (Or.inl rfl)) ((ms_inv (x := x) (y := 0) (z := ((nI (cn v 0)) - 1)) rfl (by decide) rfl).mono (by decide)) ?_
  exact Eg.retZ rfl yn_01 ⟨congrArg (fun z => some (Value.int z)) (show (yn (¬ (x < 0 ∨ ((nI (cn v 0)) - 1) < x)) : Int32) = yn (¬ (x < 0 ∨ nI (cn v 0) ≤ x)) from yn_iff (out_m1 (by omega))), rfl⟩
theorem ms_isTrain (hM : MW sh R) (hv : mV I v) (hw : Wf v) {x : Int32} : Ec X 2 187 [.ref 290, .int x] (sh, I, L, R) (fun r h' => r = some (.int (yn (¬ (x < 0 ∨ nI (cn v 1) ≤ x)))) ∧ h' = (sh, I, L, R)) := by
  have hb := hw.1.2
  refine Ec.of (Nat.le_of_ble_eq_true rfl) ?_
  refine e_iload rfl rfl ?_
  refine e_i2l rfl ?_
  refine e_lpush rfl ?_
  refine e_aload rfl rfl ?_
  refine e_getR rfl hM.1 (hM.2 0 _ rfl).2 ?_
  refine e_ipush rfl ?_
  refine e_ialv (t := 1) (n := 14) rfl (hM.2 0 _ rfl).1 rfl (by decide) (by decide) (hv.n hw (j := 1) (by decide)) ?_
  refine e_ipush rfl ?_
  refine e_isub rfl ?_
  refine e_i2l rfl ?_
  refine Eg.p3 rfl (by decide) (by decide) rfl (Nat.le_of_ble_eq_true rfl) (xrcv_ofs (Or.inl rfl)) ((ms_inv (x := x) (y := 0) (z := ((nI (cn v 1)) - 1)) rfl (by decide) rfl).mono (by decide)) ?_
  exact Eg.retZ rfl yn_01 ⟨congrArg (fun z => some (Value.int z)) (show (yn (¬ (x < 0 ∨ ((nI (cn v 1)) - 1) < x)) : Int32) = yn (¬ (x < 0 ∨ nI (cn v 1) ≤ x)) from yn_iff (out_m1 (by omega))), rfl⟩
theorem ms_isShip (hM : MW sh R) (hv : mV I v) (hw : Wf v) {x : Int32} : Ec X 2 188 [.ref 290, .int x] (sh, I, L, R) (fun r h' => r = some (.int (yn (¬ (x < 0 ∨ nI (cn v 4) ≤ x)))) ∧ h' = (sh, I, L, R)) := by
  have hb := hw.1.2
  refine Ec.of (Nat.le_of_ble_eq_true rfl) ?_
  refine e_iload rfl rfl ?_
  refine e_i2l rfl ?_
  refine e_lpush rfl ?_
  refine e_aload rfl rfl ?_
  refine e_getR rfl hM.1 (hM.2 0 _ rfl).2 ?_
  refine e_ipush rfl ?_
  refine e_ialv (t := 4) (n := 14) rfl (hM.2 0 _ rfl).1 rfl (by decide) (by decide) (hv.n hw (j := 4) (by decide)) ?_
  refine e_ipush rfl ?_
  refine e_isub rfl ?_
  refine e_i2l rfl ?_
  refine Eg.p3 rfl (by decide) (by decide) rfl (Nat.le_of_ble_eq_true rfl) (xrcv_ofs (Or.inl rfl)) ((ms_inv (x := x) (y := 0) (z := ((nI (cn v 4)) - 1)) rfl (by decide) rfl).mono (by decide)) ?_
  exact Eg.retZ rfl yn_01 ⟨congrArg (fun z => some (Value.int z)) (show (yn (¬ (x < 0 ∨ ((nI (cn v 4)) - 1) < x)) : Int32) = yn (¬ (x < 0 ∨ nI (cn v 4) ≤ x)) from yn_iff (out_m1 (by omega))), rfl⟩
theorem ms_isDay {x : Int32} : Ec X 2 190 [.int x] h (fun r h' => r = some (.int (yn (¬ (x < 0 ∨ 9999 < x)))) ∧ h' = h) := by
  refine Ec.of (Nat.le_of_ble_eq_true rfl) ?_
  refine e_iload rfl rfl ?_
  refine e_i2l rfl ?_
  refine e_lpush rfl ?_
  refine e_lpush rfl ?_
  refine Eg.p3 rfl (by decide) (by decide) rfl (Nat.le_of_ble_eq_true rfl) (xrcv_ofs (Or.inl rfl)) ((ms_inv (x := x) (y := 0) (z := 9999) rfl (by decide) (by decide)).mono (by decide)) ?_
  exact Eg.retZ rfl yn_01 ⟨rfl, rfl⟩
theorem ms_isSeaV (hM : MW sh R) (hv : mV I v) (hw : Wf v) : Ec X 1 185 [.ref 290] (sh, I, L, R) (fun r h' => r = some (.int (yn (¬ cn v 0 = 0))) ∧ h' = (sh, I, L, R)) := by
  have hb := hw.1.2
  have h := ms_isSea (X := X) (L := L) (I := I) hM.1 (hM.2 0 _ rfl).1 (hM.2 0 _ rfl).2
  rw [show I (1, 291, 20, 14).2.1 0 = nI (cn v 0) from hv.n hw (by decide), ite_yn, yn_iff (not_congr (nI_le0 (by omega)))] at h
  exact h
/-- whether a number is a place's -/
def plc (v : Nat → Nat → Int32) (x : Int32) : Bool := decide (x < 4 ∧ ¬ (x < 0 ∨ nI (cn v 2) ≤ x) ∨ ¬ x < 4 ∧ ¬ nI (cn v 3) ≤ x - 4)
theorem plc_iff {v : Nat → Nat → Int32} {x : Int32} : plc v x = true ↔ (x < 4 ∧ ¬ (x < 0 ∨ nI (cn v 2) ≤ x) ∨ ¬ x < 4 ∧ ¬ nI (cn v 3) ≤ x - 4) := decide_eq_true_iff
theorem plc_get {x : Int32} (h : plc v x = true) (hw : Wf v) : ∃ p, x = nI p ∧ isP v p := by
  have hb := hw.1.2
  rcases plc_iff.mp h with ⟨h1, h2⟩ | ⟨h1, h2⟩
  · obtain ⟨p, hp, e⟩ := nI_get h2 (by omega)
    exact ⟨p, e, Or.inl ⟨by omega, hp⟩⟩
  · obtain ⟨p, hp, e⟩ := nI_of (x := x) (fun q => h1 (by rw [Int32.lt_iff_toInt_lt] at q ⊢; have : (4 : Int32).toInt = 4 := by decide
                                                         have : (0 : Int32).toInt = 0 := by decide
                                                         omega))
    subst e
    have h4 : 4 ≤ p := by
      apply Decidable.byContradiction; intro hc
      exact h1 (nI_lt (a := p) (b := 4) (by omega) (by omega))
    refine ⟨p, rfl, Or.inr ⟨h4, ?_⟩⟩
    apply Decidable.byContradiction; intro hc
    apply h2
    rw [show nI p - 4 = nI (p - 4) by obtain ⟨q, rfl⟩ : ∃ q, p = q + 4 := ⟨p - 4, by omega⟩; rw [← nI_add]; show nI q + 4 - 4 = nI (q + 4 - 4); rw [Nat.add_sub_cancel]; grind]
    exact nI_le (by omega) (by omega)
theorem plc_of {p : Nat} (h : isP v p) (hw : Wf v) : plc v (nI p) = true := by
  have hb := hw.1.2
  rw [plc_iff]
  rcases h with ⟨h1, h2⟩ | ⟨h1, h2⟩
  · exact Or.inl ⟨nI_lt (b := 4) h1 (by omega), fun q => q.elim (nI_pos (by omega)) (nI_ge h2 (by omega))⟩
  · refine Or.inr ⟨nI_nlt (b := 4) h1 (by omega), ?_⟩
    rw [show nI p - 4 = nI (p - 4) by obtain ⟨q, rfl⟩ : ∃ q, p = q + 4 := ⟨p - 4, by omega⟩; rw [← nI_add]; show nI q + 4 - 4 = nI (q + 4 - 4); rw [Nat.add_sub_cancel]; grind]
    exact nI_ge h2 (by omega)
theorem pl_4 {x : Int32} {n : Nat} (hn : n ≤ 4) (h : ¬ x < 4) : (¬ (x < 4 ∨ 4 + nI n - 1 < x)) ↔ ¬ nI n ≤ x - 4 := by
  have e4 : (4 : Int32).toInt = 4 := by decide
  have e1 : (1 : Int32).toInt = 1 := by decide
  have hx := x.toInt_lt
  rw [Int32.lt_iff_toInt_lt, e4] at h
  rw [Int32.lt_iff_toInt_lt, Int32.lt_iff_toInt_lt, Int32.le_iff_toInt_le, Int32.toInt_sub, Int32.toInt_sub, Int32.toInt_add, nI_toInt (by omega), e4, e1, Int.bmod_eq_of_le (n := 4 + (n : Int)) (by omega) (by omega), Int.bmod_eq_of_le (by omega) (by omega), Int.bmod_eq_of_le (by omega) (by omega)]
  omega
theorem ms_isPlace (hM : MW sh R) (hv : mV I v) (hw : Wf v) {x : Int32} : Ec X 2 189 [.ref 290, .int x] (sh, I, L, R) (fun r h' => r = some (.int (yn (plc v x = true))) ∧ h' = (sh, I, L, R)) := by
  have hb := hw.1.2
  refine Ec.of (Nat.le_of_ble_eq_true rfl) ?_
  refine e_iload rfl rfl ?_
  refine e_ipush rfl ?_
  refine e_cge_b rfl (fun b2 => ?_) (fun b2 => ?_)
  · refine e_iload rfl rfl ?_
    refine e_i2l rfl ?_
    refine e_lpush rfl ?_
    refine e_ipush rfl ?_
    refine e_aload rfl rfl ?_
    refine e_getR rfl hM.1 (hM.2 0 _ rfl).2 ?_
    refine e_ipush rfl ?_
    refine e_ialv (t := 3) (n := 14) rfl (hM.2 0 _ rfl).1 rfl (by decide) (by decide) (hv.n hw (j := 3) (by decide)) ?_
    refine e_iadd rfl ?_
    refine e_ipush rfl ?_
    refine e_isub rfl ?_
    refine e_i2l rfl ?_
    refine Eg.p3 rfl (by decide) (by decide) rfl (Nat.le_of_ble_eq_true rfl) (xrcv_ofs (Or.inl rfl)) ((ms_inv (x := x) (y := 4) (z := ((4 + (nI (cn v 3))) - 1)) rfl (by decide) rfl).mono (by decide)) ?_
    exact Eg.retZ rfl yn_01 ⟨congrArg (fun z => some (Value.int z)) (show (yn (¬ (x < 4 ∨ ((4 + (nI (cn v 3))) - 1) < x)) : Int32) = yn (plc v x = true) from yn_iff (by rw [plc_iff, pl_4 (by omega) (Int32.not_lt.mpr b2)]; exact ⟨fun q => Or.inr ⟨Int32.not_lt.mpr b2, q⟩, fun q => q.elim (fun r => absurd r.1 (Int32.not_lt.mpr b2)) (fun r => r.2)⟩)), rfl⟩
  · refine e_iload rfl rfl ?_
    refine e_i2l rfl ?_
    refine e_lpush rfl ?_
    refine e_aload rfl rfl ?_
    refine e_getR rfl hM.1 (hM.2 0 _ rfl).2 ?_
    refine e_ipush rfl ?_
    refine e_ialv (t := 2) (n := 14) rfl (hM.2 0 _ rfl).1 rfl (by decide) (by decide) (hv.n hw (j := 2) (by decide)) ?_
    refine e_ipush rfl ?_
    refine e_isub rfl ?_
    refine e_i2l rfl ?_
    refine Eg.p3 rfl (by decide) (by decide) rfl (Nat.le_of_ble_eq_true rfl) (xrcv_ofs (Or.inl rfl)) ((ms_inv (x := x) (y := 0) (z := ((nI (cn v 2)) - 1)) rfl (by decide) rfl).mono (by decide)) ?_
    refine e_goto rfl ?_
    exact Eg.retZ rfl yn_01 ⟨congrArg (fun z => some (Value.int z)) (show (yn (¬ (x < 0 ∨ ((nI (cn v 2)) - 1) < x)) : Int32) = yn (plc v x = true) from yn_iff (by rw [plc_iff, out_m1 (by omega)]; exact ⟨fun q => Or.inl ⟨Int32.not_le.mp b2, q⟩, fun q => q.elim (fun r => r.2) (fun r => absurd (Int32.not_le.mp b2) r.1)⟩)), rfl⟩
theorem ms_isFenced (hM : MW sh R) (hv : mV I v) (hw : Wf v) {c M : Nat} (hc : c < 12) (hM2 : M < 4096) : Ec X 1 235 [.ref 290, .int (nI c), .int (nI M)] (sh, I, L, R) (fun r h' => r = some (.int (yn ((cn v 8 ||| M).testBit c = true))) ∧ h' = (sh, I, L, R)) := by
  have hb := hw.1.2
  have ho : cn v 8 ||| M < 4096 := Nat.or_lt_two_pow (n := 12) (by omega) (by omega)
  refine Ec.of (Nat.le_of_ble_eq_true rfl) ?_
  refine e_iload rfl rfl ?_
  refine e_iflt_f rfl (nI_pos (by omega)) ?_
  refine e_aload rfl rfl ?_
  refine e_getR rfl hM.1 (hM.2 0 _ rfl).2 ?_
  refine e_ipush rfl ?_
  refine e_ialv (t := 8) (n := 14) rfl (hM.2 0 _ rfl).1 rfl (by decide) (by decide) (hv.n hw (j := 8) (by decide)) ?_
  refine e_iload rfl rfl ?_
  refine e_ior rfl ?_
  rw [show (nI (cn v 8)) ||| (nI M) = nI (cn v 8 ||| M) from nI_or _ _]
  refine e_iload rfl rfl ?_
  refine e_ishr rfl ?_
  refine e_ipush rfl ?_
  refine e_iand rfl ?_
  rw [show ((nI (cn v 8 ||| M)) >>> ((nI c) &&& 31)) &&& 1 = yn ((cn v 8 ||| M).testBit c = true) from nI_bit (by omega) (by omega)]
  refine e_ipush rfl ?_
  refine e_cne_b rfl (fun b18 => ?_) (fun b18 => ?_)
  · refine e_ipush rfl ?_
    exact Eg.ret rfl (by decide) rfl ⟨congrArg (fun z => some (Value.int z)) (yn_f (fun q => b18 (yn_1.mpr q))).symm, rfl⟩
  · refine e_ipush rfl ?_
    refine e_goto rfl ?_
    exact Eg.ret rfl (by decide) rfl ⟨congrArg (fun z => some (Value.int z)) (yn_t (yn_1.mp b18)).symm, rfl⟩
theorem ms_isFencedM (hM : MW sh R) (hv : mV I v) (hw : Wf v) {c M : Nat} (hc : c < 12) (hM2 : M < 4096) : Ec X 1 235 [.ref 290, .int (nI c - 1), .int (nI M)] (sh, I, L, R) (fun r h' => r = some (.int (yn (1 ≤ c ∧ (cn v 8 ||| M).testBit (c - 1) = true))) ∧ h' = (sh, I, L, R)) := by
  cases c with
  | zero =>
    refine Ec.of (Nat.le_of_ble_eq_true rfl) ?_
    refine e_iload rfl rfl ?_
    refine e_iflt_t rfl (by decide) ?_
    refine e_ipush rfl ?_
    exact Eg.ret rfl (by decide) rfl ⟨congrArg (fun z => some (Value.int z)) (yn_f (fun q => absurd q.1 (by omega))).symm, rfl⟩
  | succ c =>
    rw [nI_pred, yn_iff (q := (cn v 8 ||| M).testBit c = true) (by simp)]
    exact ms_isFenced hM hv hw (by omega) hM2
theorem ms_restOf0 (hM : MW sh R) (hv : mV I v) (hw : Wf v) {c M : Nat} {d : Int32} (hc : c < 12) (hM2 : M < 4096) : Ec X 2 236 [.ref 290, .int (nI c), .int d, .int (nI M), .int 0] (sh, I, L, R) (fun r h' => r = some (.int (v 2 c + drf (cn v 8 ||| M) c)) ∧ h' = (sh, I, L, R)) := by
  have hb := hw.1.2
  have kk : Eg X xTc 1 236 38 [(0, .ref 290), (1, .int (nI c)), (2, .int d), (3, .int (nI M)), (4, .int 0)] [.int (v 2 c + drf (cn v 8 ||| M) c)] (sh, I, L, R) (fun r h' => r = some (.int (v 2 c + drf (cn v 8 ||| M) c)) ∧ h' = (sh, I, L, R)) := by
    refine e_istore rfl ?_
    refine e_ipush rfl ?_
    refine e_istore rfl ?_
    refine e_iload rfl rfl ?_
    refine e_aload rfl rfl ?_
    refine e_getR rfl hM.1 (hM.2 0 _ rfl).2 ?_
    refine e_ipush rfl ?_
    refine e_ialv (t := 9) (n := 14) rfl (hM.2 0 _ rfl).1 rfl (by decide) (by decide) (hv.n hw (j := 9) (by decide)) ?_
    refine e_cge_b rfl (fun b52 => ?_) (fun b52 => ?_)
    · refine e_iload rfl rfl ?_
      exact Eg.ret rfl (by decide) rfl ⟨rfl, rfl⟩
    · refine e_iload rfl rfl ?_
      refine e_ifeq_t rfl rfl ?_
      refine e_iload rfl rfl ?_
      exact Eg.ret rfl (by decide) rfl ⟨rfl, rfl⟩
  refine Ec.of (Nat.le_of_ble_eq_true rfl) ?_
  refine e_aload rfl rfl ?_
  refine e_getR rfl hM.1 (hM.2 1 _ rfl).2 ?_
  refine e_iload rfl rfl ?_
  refine e_ialv (t := c) (n := 12) rfl (hM.2 1 _ rfl).1 rfl (by omega) (by decide) (hv 2 c (by decide)) ?_
  refine e_aload rfl rfl ?_
  refine e_iload rfl rfl ?_
  refine e_iload rfl rfl ?_
  refine Eg.p3 rfl (by decide) (by decide) rfl (Nat.le_of_ble_eq_true rfl) (xrcv_of rfl hM.1 rfl) ((ms_isFenced hM hv hw (c := c) (M := M) (by omega) (by omega)).mono (by decide)) ?_
  refine e_ifeq_b rfl (fun b12 => ?_) (fun b12 => ?_)
  · refine e_ipush rfl ?_
    refine e_isub rfl ?_
    refine e_aload rfl rfl ?_
    refine e_iload rfl rfl ?_
    refine e_ipush rfl ?_
    refine e_isub rfl ?_
    refine e_iload rfl rfl ?_
    refine Eg.p3 rfl (by decide) (by decide) rfl (Nat.le_of_ble_eq_true rfl) (xrcv_of rfl hM.1 rfl) ((ms_isFencedM hM hv hw (c := c) (M := M) (by omega) (by omega)).mono (by decide)) ?_
    refine e_ifeq_b rfl (fun b29 => ?_) (fun b29 => ?_)
    · refine e_ipush rfl ?_
      refine e_iadd rfl ?_
      rw [show ((v 2 c) - 0) + 0 = v 2 c + drf (cn v 8 ||| M) c by unfold drf; rw [if_neg (yn_0.mp b12), if_neg (yn_0.mp b29)]; grind]
      exact kk
    · refine e_ipush rfl ?_
      refine e_goto rfl ?_
      refine e_iadd rfl ?_
      rw [show ((v 2 c) - 0) + 3 = v 2 c + drf (cn v 8 ||| M) c by unfold drf; rw [if_neg (yn_0.mp b12), if_pos (yn_n0.mp b29)]; grind]
      exact kk
  · refine e_ipush rfl ?_
    refine e_goto rfl ?_
    refine e_isub rfl ?_
    refine e_aload rfl rfl ?_
    refine e_iload rfl rfl ?_
    refine e_ipush rfl ?_
    refine e_isub rfl ?_
    refine e_iload rfl rfl ?_
    refine Eg.p3 rfl (by decide) (by decide) rfl (Nat.le_of_ble_eq_true rfl) (xrcv_of rfl hM.1 rfl) ((ms_isFencedM hM hv hw (c := c) (M := M) (by omega) (by omega)).mono (by decide)) ?_
    refine e_ifeq_b rfl (fun b29 => ?_) (fun b29 => ?_)
    · refine e_ipush rfl ?_
      refine e_iadd rfl ?_
      rw [show ((v 2 c) - 3) + 0 = v 2 c + drf (cn v 8 ||| M) c by unfold drf; rw [if_pos (yn_n0.mp b12), if_neg (yn_0.mp b29)]; grind]
      exact kk
    · refine e_ipush rfl ?_
      refine e_goto rfl ?_
      refine e_iadd rfl ?_
      rw [show ((v 2 c) - 3) + 3 = v 2 c + drf (cn v 8 ||| M) c by unfold drf; rw [if_pos (yn_n0.mp b12), if_pos (yn_n0.mp b29)]; grind]
      exact kk
theorem ms_restOf1 (hM : MW sh R) (hv : mV I v) (hw : Wf v) {c M : Nat} {d : Int32} (hc : c < 12) (hM2 : M < 4096) : Ec X 2 236 [.ref 290, .int (nI c), .int d, .int (nI M), .int 1] (sh, I, L, R) (fun r h' => r = some (.int (itN (fun k z => z - dgt v (nI c) d k) (v 2 c + drf (cn v 8 ||| M) c) (cn v 9))) ∧ h' = (sh, I, L, R)) := by
  have hb := hw.1.2
  have kk : Eg X xTc 1 236 38 [(0, .ref 290), (1, .int (nI c)), (2, .int d), (3, .int (nI M)), (4, .int 1)] [.int (v 2 c + drf (cn v 8 ||| M) c)] (sh, I, L, R) (fun r h' => r = some (.int (itN (fun k z => z - dgt v (nI c) d k) (v 2 c + drf (cn v 8 ||| M) c) (cn v 9))) ∧ h' = (sh, I, L, R)) := by
    refine e_istore rfl ?_
    refine e_ipush rfl ?_
    refine e_istore rfl ?_
    refine Eg.pk [0, 1, 2, 3, 4, 5, 6] [6, 5, 0, 1, 2, 3, 4] rfl (by decide) ?_
    refine up_ind (p := fun j => Eg X xTc _ 236 43 [(0, .ref 290), (1, .int (nI c)), (2, .int d), (3, .int (nI M)), (4, .int 1), (5, .int (itN (fun k z => z - dgt v (nI c) d k) (v 2 c + drf (cn v 8 ||| M) c) j)), (6, .int (nI j))] [] (sh, I, L, R) _) (n := cn v 9) (j := 0) (fun j hj ih => ?_) ?_ (Nat.zero_le _)
    · refine e_iload rfl rfl ?_
      refine e_aload rfl rfl ?_
      refine e_getR rfl hM.1 (hM.2 0 _ rfl).2 ?_
      refine e_ipush rfl ?_
      refine e_ialv (t := 9) (n := 14) rfl (hM.2 0 _ rfl).1 rfl (by decide) (by decide) (hv.n hw (j := 9) (by decide)) ?_
      refine e_cge_f rfl (nI_ge hj (by omega)) ?_
      refine e_iload rfl rfl ?_
      refine e_ifeq_f rfl (by decide) ?_
      refine e_iload rfl rfl ?_
      refine e_aload rfl rfl ?_
      refine e_getR rfl hM.1 (hM.2 19 _ rfl).2 ?_
      refine e_iload rfl rfl ?_
      refine e_ialv (t := j) (n := 8) rfl (hM.2 19 _ rfl).1 rfl (by omega) (by decide) (hv 20 j (by decide)) ?_
      refine e_iload rfl rfl ?_
      refine e_cne_b rfl (fun b70 => ?_) (fun b70 => ?_)
      · refine e_ipush rfl ?_
        refine e_isub rfl ?_
        refine e_istore rfl ?_
        refine e_iinc rfl rfl ?_
        refine e_goto rfl ?_
        refine Eg.pk [0, 1, 2, 3, 4, 5, 6] [6, 5, 0, 1, 2, 3, 4] rfl (by decide) ?_
        rw [show (itN (fun k z => z - dgt v (nI c) d k) (v 2 c + drf (cn v 8 ||| M) c) j - 0) = itN (fun k z => z - dgt v (nI c) d k) (v 2 c + drf (cn v 8 ||| M) c) (j + 1) from congrArg (fun q => itN (fun k z => z - dgt v (nI c) d k) (v 2 c + drf (cn v 8 ||| M) c) j - q) (show _ = dgt v (nI c) d j from (if_neg (fun q => b70 q.1)).symm)]
        rw [nI_1]
        exact ih
      · refine e_iload rfl rfl ?_
        refine e_i2l rfl ?_
        refine e_aload rfl rfl ?_
        refine e_getR rfl hM.1 (hM.2 21 _ rfl).2 ?_
        refine e_iload rfl rfl ?_
        refine e_ialv (t := j) (n := 8) rfl (hM.2 21 _ rfl).1 rfl (by omega) (by decide) (hv 22 j (by decide)) ?_
        refine e_i2l rfl ?_
        refine e_aload rfl rfl ?_
        refine e_getR rfl hM.1 (hM.2 22 _ rfl).2 ?_
        refine e_iload rfl rfl ?_
        refine e_ialv (t := j) (n := 8) rfl (hM.2 22 _ rfl).1 rfl (by omega) (by decide) (hv 23 j (by decide)) ?_
        refine e_i2l rfl ?_
        refine Eg.p3 rfl (by decide) (by decide) rfl (Nat.le_of_ble_eq_true rfl) (xrcv_ofs (Or.inl rfl)) ((ms_inv (x := d) (y := (v 22 j)) (z := (v 23 j)) rfl rfl rfl).mono (by decide)) ?_
        refine e_ifeq_b rfl (fun b94 => ?_) (fun b94 => ?_)
        · refine e_ipush rfl ?_
          refine e_isub rfl ?_
          refine e_istore rfl ?_
          refine e_iinc rfl rfl ?_
          refine e_goto rfl ?_
          refine Eg.pk [0, 1, 2, 3, 4, 5, 6] [6, 5, 0, 1, 2, 3, 4] rfl (by decide) ?_
          rw [show (itN (fun k z => z - dgt v (nI c) d k) (v 2 c + drf (cn v 8 ||| M) c) j - 0) = itN (fun k z => z - dgt v (nI c) d k) (v 2 c + drf (cn v 8 ||| M) c) (j + 1) from congrArg (fun q => itN (fun k z => z - dgt v (nI c) d k) (v 2 c + drf (cn v 8 ||| M) c) j - q) (show _ = dgt v (nI c) d j from (if_neg (fun q => (yn_0.mp b94) (fun r => r.elim (Int32.not_lt.mpr q.2.1) (Int32.not_lt.mpr q.2.2.1)))).symm)]
          rw [nI_1]
          exact ih
        · refine e_aload rfl rfl ?_
          refine e_getR rfl hM.1 (hM.2 22 _ rfl).2 ?_
          refine e_iload rfl rfl ?_
          refine e_ialv (t := j) (n := 8) rfl (hM.2 22 _ rfl).1 rfl (by omega) (by decide) (hv 23 j (by decide)) ?_
          refine e_aload rfl rfl ?_
          refine e_getR rfl hM.1 (hM.2 0 _ rfl).2 ?_
          refine e_ipush rfl ?_
          refine e_ialv (t := 7) (n := 14) rfl (hM.2 0 _ rfl).1 rfl (by decide) (by decide) (hv.n hw (j := 7) (by decide)) ?_
          refine e_clt_b rfl (fun b111 => ?_) (fun b111 => ?_)
          · refine e_ipush rfl ?_
            refine e_isub rfl ?_
            refine e_istore rfl ?_
            refine e_iinc rfl rfl ?_
            refine e_goto rfl ?_
            refine Eg.pk [0, 1, 2, 3, 4, 5, 6] [6, 5, 0, 1, 2, 3, 4] rfl (by decide) ?_
            rw [show (itN (fun k z => z - dgt v (nI c) d k) (v 2 c + drf (cn v 8 ||| M) c) j - 0) = itN (fun k z => z - dgt v (nI c) d k) (v 2 c + drf (cn v 8 ||| M) c) (j + 1) from congrArg (fun q => itN (fun k z => z - dgt v (nI c) d k) (v 2 c + drf (cn v 8 ||| M) c) j - q) (show _ = dgt v (nI c) d j from (if_neg (fun q => Int32.not_lt.mpr (by rw [← hw.n (j := 7) (by decide)]; exact q.2.2.2) b111)).symm)]
            rw [nI_1]
            exact ih
          · refine e_aload rfl rfl ?_
            refine e_getR rfl hM.1 (hM.2 20 _ rfl).2 ?_
            refine e_iload rfl rfl ?_
            refine e_ialv (t := j) (n := 8) rfl (hM.2 20 _ rfl).1 rfl (by omega) (by decide) (hv 21 j (by decide)) ?_
            refine e_goto rfl ?_
            refine e_isub rfl ?_
            refine e_istore rfl ?_
            refine e_iinc rfl rfl ?_
            refine e_goto rfl ?_
            refine Eg.pk [0, 1, 2, 3, 4, 5, 6] [6, 5, 0, 1, 2, 3, 4] rfl (by decide) ?_
            rw [show (itN (fun k z => z - dgt v (nI c) d k) (v 2 c + drf (cn v 8 ||| M) c) j - v 21 j) = itN (fun k z => z - dgt v (nI c) d k) (v 2 c + drf (cn v 8 ||| M) c) (j + 1) from congrArg (fun q => itN (fun k z => z - dgt v (nI c) d k) (v 2 c + drf (cn v 8 ||| M) c) j - q) (show _ = dgt v (nI c) d j from (if_pos ⟨b70, Int32.not_lt.mp (fun r => (yn_n0.mp b94) (Or.inl r)), Int32.not_lt.mp (fun r => (yn_n0.mp b94) (Or.inr r)), by rw [hw.n (j := 7) (by decide)]; exact Int32.not_lt.mp b111⟩).symm)]
            rw [nI_1]
            exact ih
    · refine e_iload rfl rfl ?_
      refine e_aload rfl rfl ?_
      refine e_getR rfl hM.1 (hM.2 0 _ rfl).2 ?_
      refine e_ipush rfl ?_
      refine e_ialv (t := 9) (n := 14) rfl (hM.2 0 _ rfl).1 rfl (by decide) (by decide) (hv.n hw (j := 9) (by decide)) ?_
      refine e_cge_t rfl (Int32.le_refl _) ?_
      refine e_iload rfl rfl ?_
      exact Eg.ret rfl (by decide) rfl ⟨rfl, rfl⟩
  refine Ec.of (Nat.le_of_ble_eq_true rfl) ?_
  refine e_aload rfl rfl ?_
  refine e_getR rfl hM.1 (hM.2 1 _ rfl).2 ?_
  refine e_iload rfl rfl ?_
  refine e_ialv (t := c) (n := 12) rfl (hM.2 1 _ rfl).1 rfl (by omega) (by decide) (hv 2 c (by decide)) ?_
  refine e_aload rfl rfl ?_
  refine e_iload rfl rfl ?_
  refine e_iload rfl rfl ?_
  refine Eg.p3 rfl (by decide) (by decide) rfl (Nat.le_of_ble_eq_true rfl) (xrcv_of rfl hM.1 rfl) ((ms_isFenced hM hv hw (c := c) (M := M) (by omega) (by omega)).mono (by decide)) ?_
  refine e_ifeq_b rfl (fun b12 => ?_) (fun b12 => ?_)
  · refine e_ipush rfl ?_
    refine e_isub rfl ?_
    refine e_aload rfl rfl ?_
    refine e_iload rfl rfl ?_
    refine e_ipush rfl ?_
    refine e_isub rfl ?_
    refine e_iload rfl rfl ?_
    refine Eg.p3 rfl (by decide) (by decide) rfl (Nat.le_of_ble_eq_true rfl) (xrcv_of rfl hM.1 rfl) ((ms_isFencedM hM hv hw (c := c) (M := M) (by omega) (by omega)).mono (by decide)) ?_
    refine e_ifeq_b rfl (fun b29 => ?_) (fun b29 => ?_)
    · refine e_ipush rfl ?_
      refine e_iadd rfl ?_
      rw [show ((v 2 c) - 0) + 0 = v 2 c + drf (cn v 8 ||| M) c by unfold drf; rw [if_neg (yn_0.mp b12), if_neg (yn_0.mp b29)]; grind]
      exact kk
    · refine e_ipush rfl ?_
      refine e_goto rfl ?_
      refine e_iadd rfl ?_
      rw [show ((v 2 c) - 0) + 3 = v 2 c + drf (cn v 8 ||| M) c by unfold drf; rw [if_neg (yn_0.mp b12), if_pos (yn_n0.mp b29)]; grind]
      exact kk
  · refine e_ipush rfl ?_
    refine e_goto rfl ?_
    refine e_isub rfl ?_
    refine e_aload rfl rfl ?_
    refine e_iload rfl rfl ?_
    refine e_ipush rfl ?_
    refine e_isub rfl ?_
    refine e_iload rfl rfl ?_
    refine Eg.p3 rfl (by decide) (by decide) rfl (Nat.le_of_ble_eq_true rfl) (xrcv_of rfl hM.1 rfl) ((ms_isFencedM hM hv hw (c := c) (M := M) (by omega) (by omega)).mono (by decide)) ?_
    refine e_ifeq_b rfl (fun b29 => ?_) (fun b29 => ?_)
    · refine e_ipush rfl ?_
      refine e_iadd rfl ?_
      rw [show ((v 2 c) - 3) + 0 = v 2 c + drf (cn v 8 ||| M) c by unfold drf; rw [if_pos (yn_n0.mp b12), if_neg (yn_0.mp b29)]; grind]
      exact kk
    · refine e_ipush rfl ?_
      refine e_goto rfl ?_
      refine e_iadd rfl ?_
      rw [show ((v 2 c) - 3) + 3 = v 2 c + drf (cn v 8 ||| M) c by unfold drf; rw [if_pos (yn_n0.mp b12), if_pos (yn_n0.mp b29)]; grind]
      exact kk
theorem ms_trainV (hM : MW sh R) (hv : mV I v) (hw : Wf v) {t : Nat} {lg sf c d : Int32} (ht : t < cn v 1) : Ec X 2 234 [.ref 290, .int (nI t), .int c, .int d, .int lg, .int sf] (sh, I, L, R) (fun r h' => r = some (.int (wv (v 5) (v 6) t lg sf c d)) ∧ h' = (sh, I, L, R)) := by
  have hb := hw.1.2
  obtain ⟨p, l', s', ep, p2, p20, -⟩ := hw.2.1 t ht
  have e5 : I 295 = v 5 := funext fun k => hv 5 k (by decide)
  have e6 : I 296 = v 6 := funext fun k => hv 6 k (by decide)
  rw [← e5, ← e6]
  exact ms_trainAt hM.1 (hM.2 4 _ rfl).1 (hM.2 5 _ rfl).1 (hM.2 4 _ rfl).2 (hM.2 5 _ rfl).2 (by omega) (by rw [← ep, ← e5]) (by omega) p20
theorem ms_heightOf0r (hM : MW sh R) (hv : mV I v) (hw : Wf v) {c M : Nat} {d : Int32} (hc : c < 12) (hM2 : M < 4096) : Ec X 3 237 [.ref 290, .int (nI c), .int d, .int (nI M), .int 0] (sh, I, L, R) (fun r h' => r = some (.int (pos0 (itN (fun t z => z + wvv v t (nI c) d) (v 2 c + drf (cn v 8 ||| M) c) (cn v 1)))) ∧ h' = (sh, I, L, R)) := by
  have hb := hw.1.2
  refine Ec.of (Nat.le_of_ble_eq_true rfl) ?_
  refine e_aload rfl rfl ?_
  refine e_iload rfl rfl ?_
  refine e_iload rfl rfl ?_
  refine e_iload rfl rfl ?_
  refine e_iload rfl rfl ?_
  refine Eg.p5 rfl (by decide) (by decide) rfl (Nat.le_of_ble_eq_true rfl) (xrcv_of rfl hM.1 rfl) ((ms_restOf0 hM hv hw (c := c) (M := M) (by omega) (by omega)).mono (by decide)) ?_
  refine e_istore rfl ?_
  refine e_ipush rfl ?_
  refine e_istore rfl ?_
  refine Eg.pk [0, 1, 2, 3, 4, 5, 6] [6, 5, 0, 1, 2, 3, 4] rfl (by decide) ?_
  refine up_ind (p := fun j => Eg X xTc _ 237 14 [(0, .ref 290), (1, .int (nI c)), (2, .int d), (3, .int (nI M)), (4, .int 0), (5, .int (itN (fun t z => z + wvv v t (nI c) d) (v 2 c + drf (cn v 8 ||| M) c) j)), (6, .int (nI j))] [] (sh, I, L, R) _) (n := cn v 1) (j := 0) (fun j hj ih => ?_) ?_ (Nat.zero_le _)
  · refine e_iload rfl rfl ?_
    refine e_aload rfl rfl ?_
    refine e_getR rfl hM.1 (hM.2 0 _ rfl).2 ?_
    refine e_ipush rfl ?_
    refine e_ialv (t := 1) (n := 14) rfl (hM.2 0 _ rfl).1 rfl (by decide) (by decide) (hv.n hw (j := 1) (by decide)) ?_
    refine e_cge_f rfl (nI_ge hj (by omega)) ?_
    refine e_iload rfl rfl ?_
    refine e_aload rfl rfl ?_
    refine e_iload rfl rfl ?_
    refine e_iload rfl rfl ?_
    refine e_iload rfl rfl ?_
    refine e_aload rfl rfl ?_
    refine e_getR rfl hM.1 (hM.2 2 _ rfl).2 ?_
    refine e_iload rfl rfl ?_
    refine e_ialv (t := j) (n := 3) rfl (hM.2 2 _ rfl).1 rfl (by omega) (by decide) (hv 3 j (by decide)) ?_
    refine e_aload rfl rfl ?_
    refine e_getR rfl hM.1 (hM.2 3 _ rfl).2 ?_
    refine e_iload rfl rfl ?_
    refine e_ialv (t := j) (n := 3) rfl (hM.2 3 _ rfl).1 rfl (by omega) (by decide) (hv 4 j (by decide)) ?_
    refine Eg.p6 rfl (by decide) (by decide) rfl (Nat.le_of_ble_eq_true rfl) (xrcv_of rfl hM.1 rfl) ((ms_trainV hM hv hw (t := j) (by omega)).mono (by decide)) ?_
    refine e_iadd rfl ?_
    refine e_istore rfl ?_
    refine e_iinc rfl rfl ?_
    refine e_goto rfl ?_
    refine Eg.pk [0, 1, 2, 3, 4, 5, 6] [6, 5, 0, 1, 2, 3, 4] rfl (by decide) ?_
    rw [nI_1]
    exact ih
  · refine e_iload rfl rfl ?_
    refine e_aload rfl rfl ?_
    refine e_getR rfl hM.1 (hM.2 0 _ rfl).2 ?_
    refine e_ipush rfl ?_
    refine e_ialv (t := 1) (n := 14) rfl (hM.2 0 _ rfl).1 rfl (by decide) (by decide) (hv.n hw (j := 1) (by decide)) ?_
    refine e_cge_t rfl (Int32.le_refl _) ?_
    refine e_iload rfl rfl ?_
    refine e_ifle_b rfl (fun b60 => ?_) (fun b60 => ?_)
    · refine e_ipush rfl ?_
      exact Eg.ret rfl (by decide) rfl ⟨congrArg (fun z => some (Value.int z)) (show (0 : Int32) = pos0 (itN (fun t z => z + wvv v t (nI c) d) (v 2 c + drf (cn v 8 ||| M) c) (cn v 1)) from (if_neg (Int32.not_lt.mpr b60)).symm), rfl⟩
    · refine e_iload rfl rfl ?_
      refine e_goto rfl ?_
      exact Eg.ret rfl (by decide) rfl ⟨congrArg (fun z => some (Value.int z)) (show (itN (fun t z => z + wvv v t (nI c) d) (v 2 c + drf (cn v 8 ||| M) c) (cn v 1) : Int32) = pos0 (itN (fun t z => z + wvv v t (nI c) d) (v 2 c + drf (cn v 8 ||| M) c) (cn v 1)) from (if_pos (Int32.not_le.mp b60)).symm), rfl⟩
theorem ms_heightOf1r (hM : MW sh R) (hv : mV I v) (hw : Wf v) {c M : Nat} {d : Int32} (hc : c < 12) (hM2 : M < 4096) : Ec X 3 237 [.ref 290, .int (nI c), .int d, .int (nI M), .int 1] (sh, I, L, R) (fun r h' => r = some (.int (pos0 (itN (fun t z => z + wvv v t (nI c) d) (itN (fun k z => z - dgt v (nI c) d k) (v 2 c + drf (cn v 8 ||| M) c) (cn v 9)) (cn v 1)))) ∧ h' = (sh, I, L, R)) := by
  have hb := hw.1.2
  refine Ec.of (Nat.le_of_ble_eq_true rfl) ?_
  refine e_aload rfl rfl ?_
  refine e_iload rfl rfl ?_
  refine e_iload rfl rfl ?_
  refine e_iload rfl rfl ?_
  refine e_iload rfl rfl ?_
  refine Eg.p5 rfl (by decide) (by decide) rfl (Nat.le_of_ble_eq_true rfl) (xrcv_of rfl hM.1 rfl) ((ms_restOf1 hM hv hw (c := c) (M := M) (by omega) (by omega)).mono (by decide)) ?_
  refine e_istore rfl ?_
  refine e_ipush rfl ?_
  refine e_istore rfl ?_
  refine Eg.pk [0, 1, 2, 3, 4, 5, 6] [6, 5, 0, 1, 2, 3, 4] rfl (by decide) ?_
  refine up_ind (p := fun j => Eg X xTc _ 237 14 [(0, .ref 290), (1, .int (nI c)), (2, .int d), (3, .int (nI M)), (4, .int 1), (5, .int (itN (fun t z => z + wvv v t (nI c) d) (itN (fun k z => z - dgt v (nI c) d k) (v 2 c + drf (cn v 8 ||| M) c) (cn v 9)) j)), (6, .int (nI j))] [] (sh, I, L, R) _) (n := cn v 1) (j := 0) (fun j hj ih => ?_) ?_ (Nat.zero_le _)
  · refine e_iload rfl rfl ?_
    refine e_aload rfl rfl ?_
    refine e_getR rfl hM.1 (hM.2 0 _ rfl).2 ?_
    refine e_ipush rfl ?_
    refine e_ialv (t := 1) (n := 14) rfl (hM.2 0 _ rfl).1 rfl (by decide) (by decide) (hv.n hw (j := 1) (by decide)) ?_
    refine e_cge_f rfl (nI_ge hj (by omega)) ?_
    refine e_iload rfl rfl ?_
    refine e_aload rfl rfl ?_
    refine e_iload rfl rfl ?_
    refine e_iload rfl rfl ?_
    refine e_iload rfl rfl ?_
    refine e_aload rfl rfl ?_
    refine e_getR rfl hM.1 (hM.2 2 _ rfl).2 ?_
    refine e_iload rfl rfl ?_
    refine e_ialv (t := j) (n := 3) rfl (hM.2 2 _ rfl).1 rfl (by omega) (by decide) (hv 3 j (by decide)) ?_
    refine e_aload rfl rfl ?_
    refine e_getR rfl hM.1 (hM.2 3 _ rfl).2 ?_
    refine e_iload rfl rfl ?_
    refine e_ialv (t := j) (n := 3) rfl (hM.2 3 _ rfl).1 rfl (by omega) (by decide) (hv 4 j (by decide)) ?_
    refine Eg.p6 rfl (by decide) (by decide) rfl (Nat.le_of_ble_eq_true rfl) (xrcv_of rfl hM.1 rfl) ((ms_trainV hM hv hw (t := j) (by omega)).mono (by decide)) ?_
    refine e_iadd rfl ?_
    refine e_istore rfl ?_
    refine e_iinc rfl rfl ?_
    refine e_goto rfl ?_
    refine Eg.pk [0, 1, 2, 3, 4, 5, 6] [6, 5, 0, 1, 2, 3, 4] rfl (by decide) ?_
    rw [nI_1]
    exact ih
  · refine e_iload rfl rfl ?_
    refine e_aload rfl rfl ?_
    refine e_getR rfl hM.1 (hM.2 0 _ rfl).2 ?_
    refine e_ipush rfl ?_
    refine e_ialv (t := 1) (n := 14) rfl (hM.2 0 _ rfl).1 rfl (by decide) (by decide) (hv.n hw (j := 1) (by decide)) ?_
    refine e_cge_t rfl (Int32.le_refl _) ?_
    refine e_iload rfl rfl ?_
    refine e_ifle_b rfl (fun b60 => ?_) (fun b60 => ?_)
    · refine e_ipush rfl ?_
      exact Eg.ret rfl (by decide) rfl ⟨congrArg (fun z => some (Value.int z)) (show (0 : Int32) = pos0 (itN (fun t z => z + wvv v t (nI c) d) (itN (fun k z => z - dgt v (nI c) d k) (v 2 c + drf (cn v 8 ||| M) c) (cn v 9)) (cn v 1)) from (if_neg (Int32.not_lt.mpr b60)).symm), rfl⟩
    · refine e_iload rfl rfl ?_
      refine e_goto rfl ?_
      exact Eg.ret rfl (by decide) rfl ⟨congrArg (fun z => some (Value.int z)) (show (itN (fun t z => z + wvv v t (nI c) d) (itN (fun k z => z - dgt v (nI c) d k) (v 2 c + drf (cn v 8 ||| M) c) (cn v 9)) (cn v 1) : Int32) = pos0 (itN (fun t z => z + wvv v t (nI c) d) (itN (fun k z => z - dgt v (nI c) d k) (v 2 c + drf (cn v 8 ||| M) c) (cn v 9)) (cn v 1)) from (if_pos (Int32.not_le.mp b60)).symm), rfl⟩
theorem ms_heightOf0 (hM : MW sh R) (hv : mV I v) (hw : Wf v) {c M : Nat} {d : Int32} (hc : c < 12) (hM2 : M < 4096) : Ec X 3 237 [.ref 290, .int (nI c), .int d, .int (nI M), .int 0] (sh, I, L, R) (fun r h' => r = some (.int (lvF v (cn v 8 ||| M) c d)) ∧ h' = (sh, I, L, R)) := by
  have e : lvF v (cn v 8 ||| M) c d = pos0 (itN (fun t z => z + wvv v t (nI c) d) (v 2 c + drf (cn v 8 ||| M) c) (cn v 1)) := by
    unfold lvF sandF
    rw [Int32.add_comm (v 2 c), itN_add, Int32.add_comm]
  rw [e]
  exact ms_heightOf0r hM hv hw hc hM2
theorem ms_heightOf1 (hM : MW sh R) (hv : mV I v) (hw : Wf v) {c : Nat} {d : Int32} (hc : c < 12) : Ec X 3 237 [.ref 290, .int (nI c), .int d, .int 0, .int 1] (sh, I, L, R) (fun r h' => r = some (.int (lv v c d)) ∧ h' = (sh, I, L, R)) := by
  have e : lv v c d = pos0 (itN (fun t z => z + wvv v t (nI c) d) (itN (fun k z => z - dgt v (nI c) d k) (v 2 c + drf (cn v 8 ||| 0) c) (cn v 9)) (cn v 1)) := by
    unfold lv sandF
    rw [Nat.or_zero]
    have e1 : ∀ a, itN (fun t z => z + wvv v t (nI c) d) a (cn v 1) = a + itN (fun t z => z + wvv v t (nI c) d) 0 (cn v 1) := fun a => by rw [← itN_add, Int32.add_zero]
    have e2 : ∀ a, itN (fun k z => z - dgt v (nI c) d k) a (cn v 9) = a + itN (fun k z => z - dgt v (nI c) d k) 0 (cn v 9) := fun a => by rw [← itN_sub, Int32.add_zero]
    rw [e1 (v 2 c), e1 (itN _ _ _), e2 (_ + _), e2 (v 2 c + _)]
    congr 1
    grind
  rw [e]
  exact ms_heightOf1r hM hv hw hc (by decide)
theorem ms_heightNow (hM : MW sh R) (hv : mV I v) (hw : Wf v) {c : Nat} {d : Int32} (hc : c < 12) : Ec X 4 238 [.ref 290, .int (nI c), .int d] (sh, I, L, R) (fun r h' => r = some (.int (lv v c d)) ∧ h' = (sh, I, L, R)) := by
  refine Ec.of (Nat.le_of_ble_eq_true rfl) ?_
  refine e_aload rfl rfl ?_
  refine e_iload rfl rfl ?_
  refine e_iload rfl rfl ?_
  refine e_ipush rfl ?_
  refine e_ipush rfl ?_
  refine Eg.p5 rfl (by decide) (by decide) rfl (Nat.le_of_ble_eq_true rfl) (xrcv_of rfl hM.1 rfl) (ms_heightOf1 hM hv hw hc) ?_
  exact Eg.ret rfl (by decide) rfl ⟨rfl, rfl⟩
theorem ms_cellOf (hM : MW sh R) (hv : mV I v) (hw : Wf v) {p : Nat} (hp : isP v p) : Ec X 1 239 [.ref 290, .int (nI p)] (sh, I, L, R) (fun r h' => r = some (.int (nI (pcl v p))) ∧ h' = (sh, I, L, R)) := by
  have hb := hw.1.2
  have hp8 := hp.lt hw
  by_cases h4 : p < 4
  · refine Ec.of (Nat.le_of_ble_eq_true rfl) ?_
    refine e_iload rfl rfl ?_
    refine e_ipush rfl ?_
    refine e_cge_f rfl (nI_ge (b := 4) h4 (by omega)) ?_
    refine e_aload rfl rfl ?_
    refine e_getR rfl hM.1 (hM.2 6 _ rfl).2 ?_
    refine e_iload rfl rfl ?_
    refine e_ialv (t := p) (n := 4) rfl (hM.2 6 _ rfl).1 rfl (by omega) (by decide) (hv 7 p (by decide)) ?_
    refine e_goto rfl ?_
    exact Eg.ret rfl (by decide) rfl ⟨congrArg (fun z => some (Value.int z)) (show (v 7 p : Int32) = nI (pcl v p) from ((if_pos (by omega) : (if p < 4 then v 7 p else v 10 (p - 4)) = v 7 p).symm.trans (hp.v hw).1)), rfl⟩
  · refine Ec.of (Nat.le_of_ble_eq_true rfl) ?_
    refine e_iload rfl rfl ?_
    refine e_ipush rfl ?_
    refine e_cge_t rfl (nI_le (a := 4) (by omega) (by omega)) ?_
    refine e_aload rfl rfl ?_
    refine e_getR rfl hM.1 (hM.2 9 _ rfl).2 ?_
    refine e_iload rfl rfl ?_
    refine e_ipush rfl ?_
    refine e_isub rfl ?_
    rw [show (nI p) - 4 = nI (p - 4) from (by obtain ⟨q, rfl⟩ : ∃ q, p = q + 4 := ⟨p - 4, by omega⟩; rw [← nI_add]; show nI q + 4 - 4 = nI (q + 4 - 4); rw [Nat.add_sub_cancel]; grind)]
    refine e_ialv (t := (p - 4)) (n := 4) rfl (hM.2 9 _ rfl).1 rfl (by omega) (by decide) (hv 10 ((p - 4)) (by decide)) ?_
    exact Eg.ret rfl (by decide) rfl ⟨congrArg (fun z => some (Value.int z)) (show (v 10 ((p - 4)) : Int32) = nI (pcl v p) from ((if_neg (by omega) : (if p < 4 then v 7 p else v 10 (p - 4)) = v 10 (p - 4)).symm.trans (hp.v hw).1)), rfl⟩
theorem ms_doorOf (hM : MW sh R) (hv : mV I v) (hw : Wf v) {p : Nat} (hp : isP v p) : Ec X 1 240 [.ref 290, .int (nI p)] (sh, I, L, R) (fun r h' => r = some (.int (plm v p)) ∧ h' = (sh, I, L, R)) := by
  have hb := hw.1.2
  have hp8 := hp.lt hw
  by_cases h4 : p < 4
  · refine Ec.of (Nat.le_of_ble_eq_true rfl) ?_
    refine e_iload rfl rfl ?_
    refine e_ipush rfl ?_
    refine e_cge_f rfl (nI_ge (b := 4) h4 (by omega)) ?_
    refine e_aload rfl rfl ?_
    refine e_getR rfl hM.1 (hM.2 7 _ rfl).2 ?_
    refine e_iload rfl rfl ?_
    refine e_ialv (t := p) (n := 4) rfl (hM.2 7 _ rfl).1 rfl (by omega) (by decide) (hv 8 p (by decide)) ?_
    refine e_goto rfl ?_
    exact Eg.ret rfl (by decide) rfl ⟨congrArg (fun z => some (Value.int z)) (show (v 8 p : Int32) = plm v p from ((if_pos (by omega) : (if p < 4 then v 8 p else v 11 (p - 4)) = v 8 p).symm.trans rfl)), rfl⟩
  · refine Ec.of (Nat.le_of_ble_eq_true rfl) ?_
    refine e_iload rfl rfl ?_
    refine e_ipush rfl ?_
    refine e_cge_t rfl (nI_le (a := 4) (by omega) (by omega)) ?_
    refine e_aload rfl rfl ?_
    refine e_getR rfl hM.1 (hM.2 10 _ rfl).2 ?_
    refine e_iload rfl rfl ?_
    refine e_ipush rfl ?_
    refine e_isub rfl ?_
    rw [show (nI p) - 4 = nI (p - 4) from (by obtain ⟨q, rfl⟩ : ∃ q, p = q + 4 := ⟨p - 4, by omega⟩; rw [← nI_add]; show nI q + 4 - 4 = nI (q + 4 - 4); rw [Nat.add_sub_cancel]; grind)]
    refine e_ialv (t := (p - 4)) (n := 4) rfl (hM.2 10 _ rfl).1 rfl (by omega) (by decide) (hv 11 ((p - 4)) (by decide)) ?_
    exact Eg.ret rfl (by decide) rfl ⟨congrArg (fun z => some (Value.int z)) (show (v 11 ((p - 4)) : Int32) = plm v p from ((if_neg (by omega) : (if p < 4 then v 8 p else v 11 (p - 4)) = v 11 (p - 4)).symm.trans rfl)), rfl⟩
theorem ms_isOpen0 (hM : MW sh R) (hv : mV I v) (hw : Wf v) {p M : Nat} {d : Int32} (hp : isP v p) (hM2 : M < 4096) : Ec X 4 241 [.ref 290, .int (nI p), .int d, .int (nI M), .int 0] (sh, I, L, R) (fun r h' => r = some (.int (yn (lvF v (cn v 8 ||| M) (pcl v p) d ≤ plm v p))) ∧ h' = (sh, I, L, R)) := by
  have hb := hw.1.2
  have hpc := (hp.v hw).2.1
  refine Ec.of (Nat.le_of_ble_eq_true rfl) ?_
  refine e_aload rfl rfl ?_
  refine e_aload rfl rfl ?_
  refine e_iload rfl rfl ?_
  refine Eg.p2 rfl (by decide) (by decide) rfl (Nat.le_of_ble_eq_true rfl) (xrcv_of rfl hM.1 rfl) ((ms_cellOf hM hv hw (p := p) (by assumption)).mono (by decide)) ?_
  refine e_iload rfl rfl ?_
  refine e_iload rfl rfl ?_
  refine e_iload rfl rfl ?_
  refine Eg.p5 rfl (by decide) (by decide) rfl (Nat.le_of_ble_eq_true rfl) (xrcv_of rfl hM.1 rfl) ((ms_heightOf0 hM hv hw (c := (pcl v p)) (M := M) (by omega) (by omega)).mono (by decide)) ?_
  refine e_aload rfl rfl ?_
  refine e_iload rfl rfl ?_
  refine Eg.p2 rfl (by decide) (by decide) rfl (Nat.le_of_ble_eq_true rfl) (xrcv_of rfl hM.1 rfl) ((ms_doorOf hM hv hw (p := p) (by assumption)).mono (by decide)) ?_
  refine e_cgt_b rfl (fun b18 => ?_) (fun b18 => ?_)
  · refine e_ipush rfl ?_
    exact Eg.ret rfl (by decide) rfl ⟨congrArg (fun z => some (Value.int z)) (yn_f (Int32.not_le.mpr b18)).symm, rfl⟩
  · refine e_ipush rfl ?_
    refine e_goto rfl ?_
    exact Eg.ret rfl (by decide) rfl ⟨congrArg (fun z => some (Value.int z)) (yn_t (Int32.not_lt.mp b18)).symm, rfl⟩
theorem ms_isOpen1 (hM : MW sh R) (hv : mV I v) (hw : Wf v) {p : Nat} {d : Int32} (hp : isP v p) : Ec X 4 241 [.ref 290, .int (nI p), .int d, .int 0, .int 1] (sh, I, L, R) (fun r h' => r = some (.int (yn (lv v (pcl v p) d ≤ plm v p))) ∧ h' = (sh, I, L, R)) := by
  have hb := hw.1.2
  have hpc := (hp.v hw).2.1
  refine Ec.of (Nat.le_of_ble_eq_true rfl) ?_
  refine e_aload rfl rfl ?_
  refine e_aload rfl rfl ?_
  refine e_iload rfl rfl ?_
  refine Eg.p2 rfl (by decide) (by decide) rfl (Nat.le_of_ble_eq_true rfl) (xrcv_of rfl hM.1 rfl) ((ms_cellOf hM hv hw (p := p) (by assumption)).mono (by decide)) ?_
  refine e_iload rfl rfl ?_
  refine e_iload rfl rfl ?_
  refine e_iload rfl rfl ?_
  refine Eg.p5 rfl (by decide) (by decide) rfl (Nat.le_of_ble_eq_true rfl) (xrcv_of rfl hM.1 rfl) ((ms_heightOf1 hM hv hw (c := (pcl v p)) (by omega)).mono (by decide)) ?_
  refine e_aload rfl rfl ?_
  refine e_iload rfl rfl ?_
  refine Eg.p2 rfl (by decide) (by decide) rfl (Nat.le_of_ble_eq_true rfl) (xrcv_of rfl hM.1 rfl) ((ms_doorOf hM hv hw (p := p) (by assumption)).mono (by decide)) ?_
  refine e_cgt_b rfl (fun b18 => ?_) (fun b18 => ?_)
  · refine e_ipush rfl ?_
    exact Eg.ret rfl (by decide) rfl ⟨congrArg (fun z => some (Value.int z)) (yn_f (Int32.not_le.mpr b18)).symm, rfl⟩
  · refine e_ipush rfl ?_
    refine e_goto rfl ?_
    exact Eg.ret rfl (by decide) rfl ⟨congrArg (fun z => some (Value.int z)) (yn_t (Int32.not_lt.mp b18)).symm, rfl⟩
theorem ms_wellAt (hM : MW sh R) (hv : mV I v) (hw : Wf v) {c : Nat} {d : Int32} (hc : c < 12) : Ec X 5 242 [.ref 290, .int (nI c), .int d] (sh, I, L, R) (fun r h' => r = some (.int (wlo v c d)) ∧ h' = (sh, I, L, R)) := by
  have hb := hw.1.2
  unfold wlo
  refine Ec.of (Nat.le_of_ble_eq_true rfl) ?_
  refine e_ipush rfl ?_
  refine e_istore rfl ?_
  refine e_ipush rfl ?_
  refine e_istore rfl ?_
  refine Eg.pk [0, 1, 2, 3, 4] [4, 3, 0, 1, 2] rfl (by decide) ?_
  refine up_ind (p := fun j => Eg X xTc _ 242 5 [(0, .ref 290), (1, .int (nI c)), (2, .int d), (3, .int (itN (wlS v c (lv v c d)) (-1) j)), (4, .int (nI j))] [] (sh, I, L, R) _) (n := cn v 2) (j := 0) (fun j hj ih => ?_) ?_ (Nat.zero_le _)
  · refine e_iload rfl rfl ?_
    refine e_aload rfl rfl ?_
    refine e_getR rfl hM.1 (hM.2 0 _ rfl).2 ?_
    refine e_ipush rfl ?_
    refine e_ialv (t := 2) (n := 14) rfl (hM.2 0 _ rfl).1 rfl (by decide) (by decide) (hv.n hw (j := 2) (by decide)) ?_
    refine e_cge_f rfl (nI_ge hj (by omega)) ?_
    have hp : isP v j := Or.inl ⟨by omega, by omega⟩
    have hpc := (hp.v hw).2.1
    refine e_aload rfl rfl ?_
    refine e_getR rfl hM.1 (hM.2 6 _ rfl).2 ?_
    refine e_iload rfl rfl ?_
    refine e_ialv (t := j) (n := 4) rfl (hM.2 6 _ rfl).1 rfl (by omega) (by decide) ((hv 7 j (by decide)).trans ((if_pos (show j < 4 by omega) : (if j < 4 then v 7 j else v 10 (j - 4)) = v 7 j).symm.trans (hp.v hw).1)) ?_
    refine e_iload rfl rfl ?_
    refine e_cne_b rfl (fun b24 => ?_) (fun b24 => ?_)
    · refine e_iinc rfl rfl ?_
      refine e_goto rfl ?_
      refine Eg.pk [0, 1, 2, 3, 4] [4, 0, 1, 2, 3] rfl (by decide) ?_
      have e : itN (wlS v c (lv v c d)) (-1) (j + 1) = _ := if_neg (fun q => b24 q.1)
      rw [nI_1]
      rw [e] at ih
      exact ih
    · have epc : pcl v j = c := (nI_eq (by omega) (by omega)).mp b24
      refine e_aload rfl rfl ?_
      refine e_iload rfl rfl ?_
      refine e_iload rfl rfl ?_
      refine e_ipush rfl ?_
      refine e_ipush rfl ?_
      refine Eg.p5 rfl (by decide) (by decide) rfl (Nat.le_of_ble_eq_true rfl) (xrcv_of rfl hM.1 rfl) ((ms_isOpen1 hM hv hw (p := j) (by assumption)).mono (by decide)) ?_
      refine e_ifeq_b rfl (fun b36 => ?_) (fun b36 => ?_)
      · refine e_iinc rfl rfl ?_
        refine e_goto rfl ?_
        refine Eg.pk [0, 1, 2, 3, 4] [4, 0, 1, 2, 3] rfl (by decide) ?_
        have e : itN (wlS v c (lv v c d)) (-1) (j + 1) = _ := if_neg (fun q => (yn_0.mp b36) (by rw [epc]; exact q.2.1))
        rw [nI_1]
        rw [e] at ih
        exact ih
      · refine e_iload rfl rfl ?_
        refine e_ipush rfl ?_
        refine e_ceq_b rfl (fun b41 => ?_) (fun b41 => ?_)
        · refine e_iload rfl rfl ?_
          refine e_istore rfl ?_
          refine e_iinc rfl rfl ?_
          refine e_goto rfl ?_
          refine Eg.pk [0, 1, 2, 3, 4] [4, 3, 0, 1, 2] rfl (by decide) ?_
          have e : itN (wlS v c (lv v c d)) (-1) (j + 1) = _ := if_pos ⟨b24, (show lv v c d ≤ plm v j by have := yn_n0.mp b36; rwa [epc] at this), Or.inl b41⟩
          rw [nI_1]
          rw [e] at ih
          exact ih
        · obtain e | ⟨b, hbb, eb⟩ := wlo_bd (v := v) (c := c) (n := j) (h := lv v c d)
          · exact absurd e b41
          refine e_aload rfl rfl ?_
          refine e_getR rfl hM.1 (hM.2 8 _ rfl).2 ?_
          refine e_iload rfl rfl ?_
          refine e_ialv (t := j) (n := 4) rfl (hM.2 8 _ rfl).1 rfl (by omega) (by decide) ((hv 9 j (by decide)).trans (if_pos (show j < 4 by omega) : pco v j = v 9 j).symm) ?_
          refine e_aload rfl rfl ?_
          refine e_getR rfl hM.1 (hM.2 8 _ rfl).2 ?_
          refine e_iload rfl rfl ?_
          refine e_ialv (t := b) (n := 4) rfl (hM.2 8 _ rfl).1 eb (by omega) (by decide) ((hv 9 b (by decide)).trans (if_pos (show b < 4 by omega) : pco v b = v 9 b).symm) ?_
          refine e_cge_b rfl (fun b57 => ?_) (fun b57 => ?_)
          · refine e_iinc rfl rfl ?_
            refine e_goto rfl ?_
            refine Eg.pk [0, 1, 2, 3, 4] [4, 0, 1, 2, 3] rfl (by decide) ?_
            have e : itN (wlS v c (lv v c d)) (-1) (j + 1) = _ := if_neg (fun q => q.2.2.elim b41 (fun r => by rw [eb, nI_clamp (by omega)] at r; exact Int32.not_le.mpr r b57))
            rw [nI_1]
            rw [e] at ih
            exact ih
          · refine e_iload rfl rfl ?_
            refine e_istore rfl ?_
            refine e_iinc rfl rfl ?_
            refine e_goto rfl ?_
            refine Eg.pk [0, 1, 2, 3, 4] [4, 3, 0, 1, 2] rfl (by decide) ?_
            have e : itN (wlS v c (lv v c d)) (-1) (j + 1) = _ := if_pos ⟨b24, (show lv v c d ≤ plm v j by have := yn_n0.mp b36; rwa [epc] at this), Or.inr (by rw [eb, nI_clamp (by omega)]; exact Int32.not_le.mp b57)⟩
            rw [nI_1]
            rw [e] at ih
            exact ih
  · refine e_iload rfl rfl ?_
    refine e_aload rfl rfl ?_
    refine e_getR rfl hM.1 (hM.2 0 _ rfl).2 ?_
    refine e_ipush rfl ?_
    refine e_ialv (t := 2) (n := 14) rfl (hM.2 0 _ rfl).1 rfl (by decide) (by decide) (hv.n hw (j := 2) (by decide)) ?_
    refine e_cge_t rfl (Int32.le_refl _) ?_
    refine e_iload rfl rfl ?_
    exact Eg.ret rfl (by decide) rfl ⟨rfl, rfl⟩
theorem ms_lasting (hM : MW sh R) (hv : mV I v) (hw : Wf v) : Ec X 1 259 [.ref 290] (sh, I, L, R) (fun r h' => r = some (.int (nI (dgn v (cn v 9)))) ∧ h' = (sh, I, L, R)) := by
  have hb := hw.1.2
  refine Ec.of (Nat.le_of_ble_eq_true rfl) ?_
  refine e_ipush rfl ?_
  refine e_istore rfl ?_
  refine e_ipush rfl ?_
  refine e_istore rfl ?_
  refine Eg.pk [0, 1, 2] [2, 1, 0] rfl (by decide) ?_
  refine up_ind (p := fun j => Eg X xTc _ 259 4 [(0, .ref 290), (1, .int (nI (dgn v j))), (2, .int (nI j))] [] (sh, I, L, R) _) (n := cn v 9) (j := 0) (fun j hj ih => ?_) ?_ (Nat.zero_le _)
  · refine e_iload rfl rfl ?_
    refine e_aload rfl rfl ?_
    refine e_getR rfl hM.1 (hM.2 0 _ rfl).2 ?_
    refine e_ipush rfl ?_
    refine e_ialv (t := 9) (n := 14) rfl (hM.2 0 _ rfl).1 rfl (by decide) (by decide) (hv.n hw (j := 9) (by decide)) ?_
    refine e_cge_f rfl (nI_ge hj (by omega)) ?_
    refine e_iload rfl rfl ?_
    refine e_aload rfl rfl ?_
    refine e_getR rfl hM.1 (hM.2 22 _ rfl).2 ?_
    refine e_iload rfl rfl ?_
    refine e_ialv (t := j) (n := 8) rfl (hM.2 22 _ rfl).1 rfl (by omega) (by decide) (hv 23 j (by decide)) ?_
    refine e_aload rfl rfl ?_
    refine e_getR rfl hM.1 (hM.2 0 _ rfl).2 ?_
    refine e_ipush rfl ?_
    refine e_ialv (t := 7) (n := 14) rfl (hM.2 0 _ rfl).1 rfl (by decide) (by decide) (hv.n hw (j := 7) (by decide)) ?_
    refine e_clt_b rfl (fun b29 => ?_) (fun b29 => ?_)
    · refine e_ipush rfl ?_
      refine e_iadd rfl ?_
      refine e_istore rfl ?_
      refine e_iinc rfl rfl ?_
      refine e_goto rfl ?_
      refine Eg.pk [0, 1, 2] [2, 1, 0] rfl (by decide) ?_
      rw [show (nI (dgn v j) + 0) = nI (dgn v (j + 1)) from (Int32.add_zero _).trans (congrArg nI (if_neg (fun q => Int32.not_lt.mpr q (by rw [hw.n (j := 7) (by decide)]; exact b29))).symm)]
      rw [nI_1 j]
      exact ih
    · refine e_ipush rfl ?_
      refine e_goto rfl ?_
      refine e_iadd rfl ?_
      refine e_istore rfl ?_
      refine e_iinc rfl rfl ?_
      refine e_goto rfl ?_
      refine Eg.pk [0, 1, 2] [2, 1, 0] rfl (by decide) ?_
      rw [show (nI (dgn v j) + 1) = nI (dgn v (j + 1)) from (nI_1 _).trans (congrArg nI (if_pos (by rw [hw.n (j := 7) (by decide)]; exact Int32.not_lt.mp b29)).symm)]
      rw [nI_1 j]
      exact ih
  · refine e_iload rfl rfl ?_
    refine e_aload rfl rfl ?_
    refine e_getR rfl hM.1 (hM.2 0 _ rfl).2 ?_
    refine e_ipush rfl ?_
    refine e_ialv (t := 9) (n := 14) rfl (hM.2 0 _ rfl).1 rfl (by decide) (by decide) (hv.n hw (j := 9) (by decide)) ?_
    refine e_cge_t rfl (Int32.le_refl _) ?_
    refine e_iload rfl rfl ?_
    exact Eg.ret rfl (by decide) rfl ⟨rfl, rfl⟩
theorem ms_paidAll (hM : MW sh R) (hv : mV I v) (hw : Wf v) : Ec X 1 303 [.ref 290] (sh, I, L, R) (fun r h' => r = some (.int (paidN v)) ∧ h' = (sh, I, L, R)) := by
  have hb := hw.1.2
  refine Ec.of (Nat.le_of_ble_eq_true rfl) ?_
  refine e_ipush rfl ?_
  refine e_istore rfl ?_
  refine e_ipush rfl ?_
  refine e_istore rfl ?_
  refine Eg.pk [0, 1, 2] [2, 1, 0] rfl (by decide) ?_
  refine up_ind (p := fun j => Eg X xTc _ 303 4 [(0, .ref 290), (1, .int (itN (fun k z => z + v 17 k) 0 j)), (2, .int (nI j))] [] (sh, I, L, R) _) (n := cn v 4) (j := 0) (fun j hj ih => ?_) ?_ (Nat.zero_le _)
  · refine e_iload rfl rfl ?_
    refine e_aload rfl rfl ?_
    refine e_getR rfl hM.1 (hM.2 0 _ rfl).2 ?_
    refine e_ipush rfl ?_
    refine e_ialv (t := 4) (n := 14) rfl (hM.2 0 _ rfl).1 rfl (by decide) (by decide) (hv.n hw (j := 4) (by decide)) ?_
    refine e_cge_f rfl (nI_ge hj (by omega)) ?_
    refine e_iload rfl rfl ?_
    refine e_aload rfl rfl ?_
    refine e_getR rfl hM.1 (hM.2 16 _ rfl).2 ?_
    refine e_iload rfl rfl ?_
    refine e_ialv (t := j) (n := 4) rfl (hM.2 16 _ rfl).1 rfl (by omega) (by decide) (hv 17 j (by decide)) ?_
    refine e_iadd rfl ?_
    refine e_istore rfl ?_
    refine e_iinc rfl rfl ?_
    refine e_goto rfl ?_
    refine Eg.pk [0, 1, 2] [2, 1, 0] rfl (by decide) ?_
    rw [nI_1]
    exact ih
  · refine e_iload rfl rfl ?_
    refine e_aload rfl rfl ?_
    refine e_getR rfl hM.1 (hM.2 0 _ rfl).2 ?_
    refine e_ipush rfl ?_
    refine e_ialv (t := 4) (n := 14) rfl (hM.2 0 _ rfl).1 rfl (by decide) (by decide) (hv.n hw (j := 4) (by decide)) ?_
    refine e_cge_t rfl (Int32.le_refl _) ?_
    refine e_iload rfl rfl ?_
    exact Eg.ret rfl (by decide) rfl ⟨rfl, rfl⟩
theorem ms_dryAll (hM : MW sh R) (hv : mV I v) (hw : Wf v) : Ec X 1 304 [.ref 290] (sh, I, L, R) (fun r h' => r = some (.int (dryN v)) ∧ h' = (sh, I, L, R)) := by
  have hb := hw.1.2
  refine Ec.of (Nat.le_of_ble_eq_true rfl) ?_
  refine e_ipush rfl ?_
  refine e_istore rfl ?_
  refine e_ipush rfl ?_
  refine e_istore rfl ?_
  refine Eg.pk [0, 1, 2] [2, 1, 0] rfl (by decide) ?_
  refine up_ind (p := fun j => Eg X xTc _ 304 4 [(0, .ref 290), (1, .int (itN (fun k z => z + yn (¬ v 18 k = -1)) 0 j)), (2, .int (nI j))] [] (sh, I, L, R) _) (n := cn v 4) (j := 0) (fun j hj ih => ?_) ?_ (Nat.zero_le _)
  · refine e_iload rfl rfl ?_
    refine e_aload rfl rfl ?_
    refine e_getR rfl hM.1 (hM.2 0 _ rfl).2 ?_
    refine e_ipush rfl ?_
    refine e_ialv (t := 4) (n := 14) rfl (hM.2 0 _ rfl).1 rfl (by decide) (by decide) (hv.n hw (j := 4) (by decide)) ?_
    refine e_cge_f rfl (nI_ge hj (by omega)) ?_
    refine e_iload rfl rfl ?_
    refine e_aload rfl rfl ?_
    refine e_getR rfl hM.1 (hM.2 17 _ rfl).2 ?_
    refine e_iload rfl rfl ?_
    refine e_ialv (t := j) (n := 4) rfl (hM.2 17 _ rfl).1 rfl (by omega) (by decide) (hv 18 j (by decide)) ?_
    refine e_ipush rfl ?_
    refine e_ceq_b rfl (fun b22 => ?_) (fun b22 => ?_)
    · refine e_ipush rfl ?_
      refine e_iadd rfl ?_
      refine e_istore rfl ?_
      refine e_iinc rfl rfl ?_
      refine e_goto rfl ?_
      refine Eg.pk [0, 1, 2] [2, 1, 0] rfl (by decide) ?_
      rw [show (itN (fun k z => z + yn (¬ v 18 k = -1)) 0 j + 0) = itN (fun k z => z + yn (¬ v 18 k = -1)) 0 (j + 1) from congrArg (fun q => itN (fun k z => z + yn (¬ v 18 k = -1)) 0 j + q) (yn_f (fun q => q b22)).symm]
      rw [nI_1]
      exact ih
    · refine e_ipush rfl ?_
      refine e_goto rfl ?_
      refine e_iadd rfl ?_
      refine e_istore rfl ?_
      refine e_iinc rfl rfl ?_
      refine e_goto rfl ?_
      refine Eg.pk [0, 1, 2] [2, 1, 0] rfl (by decide) ?_
      rw [show (itN (fun k z => z + yn (¬ v 18 k = -1)) 0 j + 1) = itN (fun k z => z + yn (¬ v 18 k = -1)) 0 (j + 1) from congrArg (fun q => itN (fun k z => z + yn (¬ v 18 k = -1)) 0 j + q) (yn_t b22).symm]
      rw [nI_1]
      exact ih
  · refine e_iload rfl rfl ?_
    refine e_aload rfl rfl ?_
    refine e_getR rfl hM.1 (hM.2 0 _ rfl).2 ?_
    refine e_ipush rfl ?_
    refine e_ialv (t := 4) (n := 14) rfl (hM.2 0 _ rfl).1 rfl (by decide) (by decide) (hv.n hw (j := 4) (by decide)) ?_
    refine e_cge_t rfl (Int32.le_refl _) ?_
    refine e_iload rfl rfl ?_
    exact Eg.ret rfl (by decide) rfl ⟨rfl, rfl⟩
theorem ms_canGo (hM : MW sh R) (hv : mV I v) (hw : Wf v) {k : Nat} {x : Int32} (hk : k < cn v 4) : Ec X 5 252 [.ref 290, .int (nI k), .int x] (sh, I, L, R) (fun r h' => r = some (.int (yn (canF v k x = true))) ∧ h' = (sh, I, L, R)) := by
  have hb := hw.1.2
  obtain ⟨c, wa, tk, cl, ec, hc, ew, hwa, et, ht1, ht2, el, hl⟩ := hw.2.2.2.2 k hk
  refine Ec.of (Nat.le_of_ble_eq_true rfl) ?_
  refine e_aload rfl rfl ?_
  refine e_getR rfl hM.1 (hM.2 12 _ rfl).2 ?_
  refine e_iload rfl rfl ?_
  refine e_ialv (t := k) (n := 4) rfl (hM.2 12 _ rfl).1 rfl (by omega) (by decide) ((hv 13 k (by decide)).trans ec) ?_
  refine e_istore rfl ?_
  refine e_aload rfl rfl ?_
  refine e_iload rfl rfl ?_
  refine Eg.p2 rfl (by decide) (by decide) rfl (Nat.le_of_ble_eq_true rfl) (xrcv_of rfl hM.1 rfl) ((ms_isCell hM hv hw).mono (by decide)) ?_
  refine e_ifeq_b rfl (fun b12 => ?_) (fun b12 => ?_)
  · refine e_ipush rfl ?_
    exact Eg.ret rfl (by decide) rfl ⟨congrArg (fun z => some (Value.int z)) (yn_f (fun q => (yn_0.mp b12) (canF_iff.mp q).1)).symm, rfl⟩
  · obtain ⟨t, htt, eto⟩ := nI_get (yn_n0.mp b12) (by omega)
    have b12 := yn_n0.mp b12
    subst eto
    refine e_aload rfl rfl ?_
    refine e_getR rfl hM.1 (hM.2 13 _ rfl).2 ?_
    refine e_iload rfl rfl ?_
    refine e_ialv (t := k) (n := 4) rfl (hM.2 13 _ rfl).1 rfl (by omega) (by decide) (hv 14 k (by decide)) ?_
    refine e_ifle_b rfl (fun b21 => ?_) (fun b21 => ?_)
    · refine e_ipush rfl ?_
      exact Eg.ret rfl (by decide) rfl ⟨congrArg (fun z => some (Value.int z)) (yn_f (fun q => Int32.not_lt.mpr b21 (canF_iff.mp q).2.1)).symm, rfl⟩
    · refine e_aload rfl rfl ?_
      refine e_iload rfl rfl ?_
      refine e_aload rfl rfl ?_
      refine e_getR rfl hM.1 (hM.2 0 _ rfl).2 ?_
      refine e_ipush rfl ?_
      refine e_ialv (t := 7) (n := 14) rfl (hM.2 0 _ rfl).1 rfl (by decide) (by decide) (hv.n hw (j := 7) (by decide)) ?_
      refine e_ipush rfl ?_
      refine e_iadd rfl ?_
      refine Eg.p3 rfl (by decide) (by decide) rfl (Nat.le_of_ble_eq_true rfl) (xrcv_of rfl hM.1 rfl) ((ms_heightNow hM hv hw (c := t) (by omega)).mono (by decide)) ?_
      refine e_aload rfl rfl ?_
      refine e_iload rfl rfl ?_
      refine e_aload rfl rfl ?_
      refine e_getR rfl hM.1 (hM.2 0 _ rfl).2 ?_
      refine e_ipush rfl ?_
      refine e_ialv (t := 7) (n := 14) rfl (hM.2 0 _ rfl).1 rfl (by decide) (by decide) (hv.n hw (j := 7) (by decide)) ?_
      refine Eg.p3 rfl (by decide) (by decide) rfl (Nat.le_of_ble_eq_true rfl) (xrcv_of rfl hM.1 rfl) ((ms_heightNow hM hv hw (c := c) (by omega)).mono (by decide)) ?_
      refine e_aload rfl rfl ?_
      refine e_getR rfl hM.1 (hM.2 15 _ rfl).2 ?_
      refine e_iload rfl rfl ?_
      refine e_ialv (t := k) (n := 4) rfl (hM.2 15 _ rfl).1 rfl (by omega) (by decide) (hv 16 k (by decide)) ?_
      refine e_iadd rfl ?_
      refine e_cgt_b rfl (fun b57 => ?_) (fun b57 => ?_)
      · refine e_ipush rfl ?_
        exact Eg.ret rfl (by decide) rfl ⟨congrArg (fun z => some (Value.int z)) (yn_f (by rw [canF_iff, ec, nI_clamp (by omega), nI_clamp (by omega)]; exact fun q => Int32.not_lt.mpr q.2.2 b57)).symm, rfl⟩
      · refine e_ipush rfl ?_
        refine e_goto rfl ?_
        exact Eg.ret rfl (by decide) rfl ⟨congrArg (fun z => some (Value.int z)) (yn_t (by rw [canF_iff, ec, nI_clamp (by omega), nI_clamp (by omega)]; exact ⟨b12, Int32.not_le.mp b21, Int32.not_lt.mp b57⟩)).symm, rfl⟩
end GM
