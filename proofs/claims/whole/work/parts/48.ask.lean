/-! QUESTIONS that change nothing -/
section QU
variable {X : xX} {h : xH} {sh : List (Nat × Nat)} {I : Nat → Nat → Int32} {L : Nat → Nat → Int64} {R : Nat → Nat → Option Nat} {v : Nat → Nat → Int32} {w s m : Nat}
def per (v : Nat → Nat → Int32) (t : Nat) : Nat := (v 5 t).toNatClampNeg
/-- days after which all trains are as they were -/
def rndN (v : Nat → Nat → Int32) : Nat := itN (fun t a => a / Nat.gcd a (per v t) * per v t) 1 (cn v 1)
/-- a train's greatest height -/
def grF (v : Nat → Nat → Int32) (t : Nat) : Int32 := itN (fun k z => if z < v 6 (20 * t + k) then v 6 (20 * t + k) else z) 0 (per v t)
def SeaW (I : Nat → Nat → Int32) (s : Nat) (v : Nat → Nat → Int32) : Prop := I s 19 = nI (rndN v) ∧ ∀ t, t < cn v 1 → I (s + 4) t = grF v t
/-- all that a question needs of the one side -/
def CQ (sh : List (Nat × Nat)) (I : Nat → Nat → Int32) (R : Nat → Nat → Option Nat) (w m s : Nat) (v : Nat → Nat → Int32) : Prop := sh[0]? = some (11, 13) ∧ R 0 7 = some w ∧ sh[w]? = some (10, 12) ∧ R w 0 = some m ∧ MomAt sh R m ∧ R m 0 = some s ∧ SeaAt sh R s ∧ SeaV I s v ∧ SeaW I s v ∧ Wf v ∧ MomV I m v
theorem per_eq {t : Nat} (hw : Wf v) (ht : t < cn v 1) : v 5 t = nI (per v t) ∧ 2 ≤ per v t ∧ per v t ≤ 20 := by
  obtain ⟨p, l', s', ep, p2, p20, -⟩ := hw.2.1 t ht
  unfold per
  rw [ep, nI_clamp (by omega)]
  exact ⟨rfl, p2, p20⟩
theorem rnd_bd {n : Nat} (hw : Wf v) (hn : n ≤ cn v 1) : 1 ≤ itN (fun t a => a / Nat.gcd a (per v t) * per v t) 1 n ∧ itN (fun t a => a / Nat.gcd a (per v t) * per v t) 1 n ≤ 20 ^ n := by
  induction n with
  | zero => exact ⟨Nat.le_refl _, Nat.le_refl _⟩
  | succ n ih =>
    obtain ⟨i1, i2⟩ := ih (by omega)
    obtain ⟨-, p2, p20⟩ := per_eq hw (show n < cn v 1 by omega)
    show 1 ≤ itN _ 1 n / Nat.gcd (itN _ 1 n) (per v n) * per v n ∧ itN _ 1 n / Nat.gcd (itN _ 1 n) (per v n) * per v n ≤ 20 ^ (n + 1)
    generalize itN (fun t a => a / Nat.gcd a (per v t) * per v t) 1 n = a at i1 i2 ⊢
    have hg : 0 < Nat.gcd a (per v n) := Nat.gcd_pos_of_pos_left _ (by omega)
    have hg2 : Nat.gcd a (per v n) ≤ a := Nat.gcd_le_left _ (by omega)
    have h1 : 1 ≤ a / Nat.gcd a (per v n) := (Nat.one_le_div_iff hg).mpr hg2
    have h2 : a / Nat.gcd a (per v n) ≤ a := Nat.div_le_self _ _
    refine ⟨?_, ?_⟩
    · have := Nat.mul_le_mul h1 p2
      omega
    · rw [Nat.pow_succ]
      exact Nat.mul_le_mul (Nat.le_trans h2 i2) p20
theorem rnd_le (hw : Wf v) : 1 ≤ rndN v ∧ rndN v ≤ 8000 := by
  have h3 := hw.1.2.2.1
  have h := rnd_bd hw (Nat.le_refl (cn v 1))
  have : 20 ^ (cn v 1) ≤ 20 ^ 3 := Nat.pow_le_pow_right (by decide) h3
  exact ⟨h.1, Nat.le_trans h.2 this⟩
theorem cs_withinY {n lo hi : Int32} : Ec X 1 175 [.int n, .int lo, .int hi] h (fun r h' => r = some (.int (yn (¬ (n < lo ∨ hi < n)))) ∧ h' = h) := by
  have hh := cs_within (X := X) (h := h) (n := n) (lo := lo) (hi := hi)
  rw [ite_yn] at hh; exact hh
theorem cs_isDayY {n : Int32} : Ec X 1 176 [.int n] h (fun r h' => r = some (.int (yn (¬ (n < 0 ∨ 9999 < n)))) ∧ h' = h) := by
  have hh := cs_isDay (X := X) (h := h) (n := n)
  rw [ite_yn] at hh; exact hh
theorem cs_hasPlace (hS : SeaAt sh R s) (hV : SeaV I s v) {x : Int32} : Ec X 1 86 [.ref s, .int x] (sh, I, L, R) (fun r h' => r = some (.int (yn (plc v x = true))) ∧ h' = (sh, I, L, R)) := by
  refine Ec.of (Nat.le_of_ble_eq_true rfl) ?_
  refine e_iload rfl rfl ?_
  refine e_ipush rfl ?_
  refine e_cge_b rfl (fun b2 => ?_) (fun b2 => ?_)
  · refine e_iload rfl rfl ?_
    refine e_ipush rfl ?_
    refine e_isub rfl ?_
    refine e_aload rfl rfl ?_
    refine e_getIv rfl hS.1 (hV.1 3 (by decide)) ?_
    refine e_cge_b rfl (fun b30 => ?_) (fun b30 => ?_)
    · refine e_ipush rfl ?_
      exact Eg.ret rfl (by decide) rfl ⟨congrArg (fun z => some (Value.int z)) (yn_f (by rw [plc_iff]; grind)).symm, rfl⟩
    · refine e_ipush rfl ?_
      refine e_goto rfl ?_
      exact Eg.ret rfl (by decide) rfl ⟨congrArg (fun z => some (Value.int z)) (yn_t (by rw [plc_iff]; grind)).symm, rfl⟩
  · refine e_iload rfl rfl ?_
    refine e_iflt_b rfl (fun b6 => ?_) (fun b6 => ?_)
    · refine e_ipush rfl ?_
      exact Eg.ret rfl (by decide) rfl ⟨congrArg (fun z => some (Value.int z)) (yn_f (by rw [plc_iff]; grind)).symm, rfl⟩
    · refine e_iload rfl rfl ?_
      refine e_aload rfl rfl ?_
      refine e_getIv rfl hS.1 (hV.1 2 (by decide)) ?_
      refine e_cge_b rfl (fun b14 => ?_) (fun b14 => ?_)
      · refine e_ipush rfl ?_
        exact Eg.ret rfl (by decide) rfl ⟨congrArg (fun z => some (Value.int z)) (yn_f (by rw [plc_iff]; grind)).symm, rfl⟩
      · refine e_ipush rfl ?_
        refine e_goto rfl ?_
        exact Eg.ret rfl (by decide) rfl ⟨congrArg (fun z => some (Value.int z)) (yn_t (by rw [plc_iff]; grind)).symm, rfl⟩
theorem ms_greatestOf (hM : MW sh R) (hv : mV I v) (hw : Wf v) {t : Nat} (ht : t < cn v 1) : Ec X 1 244 [.ref 290, .int (nI t)] (sh, I, L, R) (fun r h' => r = some (.int (grF v t)) ∧ h' = (sh, I, L, R)) := by
  have hb := hw.1.2
  have hp := per_eq hw ht
  refine Ec.of (Nat.le_of_ble_eq_true rfl) ?_
  refine e_ipush rfl ?_
  refine e_istore rfl ?_
  refine e_ipush rfl ?_
  refine e_istore rfl ?_
  refine Eg.pk [0, 1, 2, 3] [3, 2, 0, 1] rfl (by decide) ?_
  refine up_ind (p := fun j => Eg X xTc _ 244 4 [(0, .ref 290), (1, .int (nI t)), (2, .int (itN (fun k z => if z < v 6 (20 * t + k) then v 6 (20 * t + k) else z) 0 j)), (3, .int (nI j))] [] (sh, I, L, R) _) (n := per v t) (j := 0) (fun j hj ih => ?_) ?_ (Nat.zero_le _)
  · refine e_iload rfl rfl ?_
    refine e_aload rfl rfl ?_
    refine e_getR rfl hM.1 (hM.2 4 _ rfl).2 ?_
    refine e_iload rfl rfl ?_
    refine e_ialv (t := t) (n := 3) rfl (hM.2 4 _ rfl).1 rfl (by omega) (by decide) ((hv 5 t (by decide)).trans hp.1) ?_
    refine e_cge_f rfl (nI_ge hj (by omega)) ?_
    refine e_aload rfl rfl ?_
    refine e_getR rfl hM.1 (hM.2 5 _ rfl).2 ?_
    refine e_ipush rfl ?_
    refine e_iload rfl rfl ?_
    refine e_imul rfl ?_
    refine e_iload rfl rfl ?_
    refine e_iadd rfl ?_
    refine e_ialv (t := 20 * t + j) (n := 60) rfl (hM.2 5 _ rfl).1 (show (20 : Int32) * nI t + nI j = nI (20 * t + j) by show nI 20 * nI t + nI j = _; rw [nI_times, nI_add]) (by omega) (by decide) (hv 6 (20 * t + j) (by decide)) ?_
    refine e_iload rfl rfl ?_
    refine e_cle_b rfl (fun b26 => ?_) (fun b26 => ?_)
    · refine e_iload rfl rfl ?_
      refine e_istore rfl ?_
      refine e_iinc rfl rfl ?_
      refine e_goto rfl ?_
      refine Eg.pk [0, 1, 2, 3] [3, 2, 0, 1] rfl (by decide) ?_
      have e : itN (fun k z => if z < v 6 (20 * t + k) then v 6 (20 * t + k) else z) 0 (j + 1) = _ := if_neg (Int32.not_lt.mpr b26)
      rw [nI_1]
      rw [e] at ih
      exact ih
    · refine e_aload rfl rfl ?_
      refine e_getR rfl hM.1 (hM.2 5 _ rfl).2 ?_
      refine e_ipush rfl ?_
      refine e_iload rfl rfl ?_
      refine e_imul rfl ?_
      refine e_iload rfl rfl ?_
      refine e_iadd rfl ?_
      refine e_ialv (t := 20 * t + j) (n := 60) rfl (hM.2 5 _ rfl).1 (show (20 : Int32) * nI t + nI j = nI (20 * t + j) by show nI 20 * nI t + nI j = _; rw [nI_times, nI_add]) (by omega) (by decide) (hv 6 (20 * t + j) (by decide)) ?_
      refine e_goto rfl ?_
      refine e_istore rfl ?_
      refine e_iinc rfl rfl ?_
      refine e_goto rfl ?_
      refine Eg.pk [0, 1, 2, 3] [3, 2, 0, 1] rfl (by decide) ?_
      have e : itN (fun k z => if z < v 6 (20 * t + k) then v 6 (20 * t + k) else z) 0 (j + 1) = _ := if_pos (Int32.not_le.mp b26)
      rw [nI_1]
      rw [e] at ih
      exact ih
  · refine e_iload rfl rfl ?_
    refine e_aload rfl rfl ?_
    refine e_getR rfl hM.1 (hM.2 4 _ rfl).2 ?_
    refine e_iload rfl rfl ?_
    refine e_ialv (t := t) (n := 3) rfl (hM.2 4 _ rfl).1 rfl (by omega) (by decide) ((hv 5 t (by decide)).trans hp.1) ?_
    refine e_cge_t rfl (Int32.le_refl _) ?_
    refine e_iload rfl rfl ?_
    exact Eg.ret rfl (by decide) rfl ⟨rfl, rfl⟩
theorem ms_roundOf (hM : MW sh R) (hv : mV I v) (hw : Wf v) : Ec X 2 266 [.ref 290] (sh, I, L, R) (fun r h' => r = some (.int (nI (rndN v))) ∧ h' = (sh, I, L, R)) := by
  have hb := hw.1.2
  refine Ec.of (Nat.le_of_ble_eq_true rfl) ?_
  refine e_ipush rfl ?_
  refine e_istore rfl ?_
  refine e_ipush rfl ?_
  refine e_istore rfl ?_
  refine Eg.pk [0, 1, 2] [2, 1, 0] rfl (by decide) ?_
  refine up_ind (p := fun j => Eg X xTc _ 266 4 [(0, .ref 290), (1, .int (nI (itN (fun t a => a / Nat.gcd a (per v t) * per v t) 1 j))), (2, .int (nI j))] [] (sh, I, L, R) _) (n := cn v 1) (j := 0) (fun j hj ih => ?_) ?_ (Nat.zero_le _)
  · refine e_iload rfl rfl ?_
    refine e_aload rfl rfl ?_
    refine e_getR rfl hM.1 (hM.2 0 _ rfl).2 ?_
    refine e_ipush rfl ?_
    refine e_ialv (t := 1) (n := 14) rfl (hM.2 0 _ rfl).1 rfl (by decide) (by decide) (hv.n hw (j := 1) (by decide)) ?_
    refine e_cge_f rfl (nI_ge hj (by omega)) ?_
    have hp := per_eq hw hj
    obtain ⟨q1, q2⟩ := rnd_bd hw (Nat.le_of_lt hj)
    have q3 : 20 ^ j ≤ 20 ^ 3 := Nat.pow_le_pow_right (by decide) (by omega)
    have hg : 0 < Nat.gcd (itN (fun t a => a / Nat.gcd a (per v t) * per v t) 1 j) (per v j) := Nat.gcd_pos_of_pos_left _ (by omega)
    have hg2 : Nat.gcd (itN (fun t a => a / Nat.gcd a (per v t) * per v t) 1 j) (per v j) ≤ itN (fun t a => a / Nat.gcd a (per v t) * per v t) 1 j := Nat.gcd_le_left _ (by omega)
    refine e_iload rfl rfl ?_
    refine e_i2l rfl ?_
    refine e_iload rfl rfl ?_
    refine e_i2l rfl ?_
    refine e_aload rfl rfl ?_
    refine e_getR rfl hM.1 (hM.2 4 _ rfl).2 ?_
    refine e_iload rfl rfl ?_
    refine e_ialv (t := j) (n := 3) rfl (hM.2 4 _ rfl).1 rfl (by omega) (by decide) ((hv 5 j (by decide)).trans hp.1) ?_
    refine e_i2l rfl ?_
    refine Eg.p2 rfl (by decide) (by decide) rfl (Nat.le_of_ble_eq_true rfl) (xrcv_ofs (Or.inl rfl)) ((by rw [nI_l (by omega), nI_l (by omega)]; exact ms_divisor (by omega) (by omega))) ?_
    refine e_ldiv rfl (lN_ne0 hg (by omega)) ?_
    refine e_aload rfl rfl ?_
    refine e_getR rfl hM.1 (hM.2 4 _ rfl).2 ?_
    refine e_iload rfl rfl ?_
    refine e_ialv (t := j) (n := 3) rfl (hM.2 4 _ rfl).1 rfl (by omega) (by decide) ((hv 5 j (by decide)).trans hp.1) ?_
    refine e_i2l rfl ?_
    refine e_lmul rfl ?_
    refine e_l2i rfl ?_
    refine e_istore rfl ?_
    refine e_iinc rfl rfl ?_
    refine e_goto rfl ?_
    refine Eg.pk [0, 1, 2] [2, 1, 0] rfl (by decide) ?_
    rw [nI_l (by omega), nI_l (by omega), lN_div (by omega) (by omega), lN_mul, lN_i, nI_1]
    exact ih
  · refine e_iload rfl rfl ?_
    refine e_aload rfl rfl ?_
    refine e_getR rfl hM.1 (hM.2 0 _ rfl).2 ?_
    refine e_ipush rfl ?_
    refine e_ialv (t := 1) (n := 14) rfl (hM.2 0 _ rfl).1 rfl (by decide) (by decide) (hv.n hw (j := 1) (by decide)) ?_
    refine e_cge_t rfl (Int32.le_refl _) ?_
    refine e_iload rfl rfl ?_
    exact Eg.ret rfl (by decide) rfl ⟨rfl, rfl⟩
def aHeight (v : Nat → Nat → Int32) (x d : Int32) : Int32 := if ¬ (x < 0 ∨ nI (cn v 0) ≤ x) ∧ ¬ (d < 0 ∨ 99999 < d) then lv v x.toNatClampNeg d else -1
theorem cf_height (hq : CQ sh I R w m s v) {x d : Int32} : Ec X 4 143 [.ref 0, .int x, .int d] (sh, I, L, R) (fun r h' => r = some (.int (aHeight v x d)) ∧ h' = (sh, I, L, R)) := by
  obtain ⟨h0, r7, hWd, rm, hM, hms, hS, hV, hU, hw, hW⟩ := hq
  have hb := hw.1.2
  refine Ec.of (Nat.le_of_ble_eq_true rfl) ?_
  refine e_aload rfl rfl ?_
  refine e_getR rfl h0 r7 ?_
  refine e_getR rfl hWd rm ?_
  refine e_getR rfl hM.1 hms ?_
  refine e_iload rfl rfl ?_
  refine Eg.p2 rfl (by decide) (by decide) rfl (Nat.le_of_ble_eq_true rfl) (xrcv_of rfl hS.1 rfl) ((cs_hasCellV hS hV).mono (by decide)) ?_
  refine e_ifeq_b rfl (fun b14 => ?_) (fun b14 => ?_)
  · replace b14 := yn_0.mp b14
    refine e_ipush rfl ?_
    exact Eg.ret rfl (by decide) rfl ⟨congrArg (fun z => some (Value.int z)) (show ((-1) : Int32) = aHeight v x d from by unfold aHeight; grind), rfl⟩
  · replace b14 := yn_n0.mp b14
    refine e_iload rfl rfl ?_
    refine e_iflt_b rfl (fun b18 => ?_) (fun b18 => ?_)
    · refine e_ipush rfl ?_
      exact Eg.ret rfl (by decide) rfl ⟨congrArg (fun z => some (Value.int z)) (show ((-1) : Int32) = aHeight v x d from by unfold aHeight; grind), rfl⟩
    · refine e_iload rfl rfl ?_
      refine e_ipush rfl ?_
      refine e_cle_b rfl (fun b24 => ?_) (fun b24 => ?_)
      · obtain ⟨t, ht, et⟩ := nI_get b14 (by omega)
        subst et
        refine e_aload rfl rfl ?_
        refine e_getR rfl h0 r7 ?_
        refine e_getR rfl hWd rm ?_
        refine e_iload rfl rfl ?_
        refine e_iload rfl rfl ?_
        refine Eg.p3 rfl (by decide) (by decide) rfl (Nat.le_of_ble_eq_true rfl) (xrcv_of rfl hM.1 rfl) ((cs_level hS hV hw hM hms hW (c := t) (by omega)).mono (by decide)) ?_
        exact Eg.ret rfl (by decide) rfl ⟨congrArg (fun z => some (Value.int z)) (show (lv v t d : Int32) = aHeight v (nI t) d from by unfold aHeight; rw [if_pos ⟨b14, by grind⟩, nI_clamp (by omega)]), rfl⟩
      · refine e_ipush rfl ?_
        exact Eg.ret rfl (by decide) rfl ⟨congrArg (fun z => some (Value.int z)) (show ((-1) : Int32) = aHeight v x d from by unfold aHeight; grind), rfl⟩
theorem md_height (hM : MW sh R) (hv : mV I v) (hw : Wf v) {x d : Int32} : Ec X 5 243 [.ref 290, .int x, .int d] (sh, I, L, R) (fun r h' => r = some (.int (aHeight v x d)) ∧ h' = (sh, I, L, R)) := by
  have hb := hw.1.2
  refine Ec.of (Nat.le_of_ble_eq_true rfl) ?_
  refine e_aload rfl rfl ?_
  refine e_iload rfl rfl ?_
  refine Eg.p2 rfl (by decide) (by decide) rfl (Nat.le_of_ble_eq_true rfl) (xrcv_of rfl hM.1 rfl) ((ms_isCell hM hv hw).mono (by decide)) ?_
  refine e_ifeq_b rfl (fun b5 => ?_) (fun b5 => ?_)
  · replace b5 := yn_0.mp b5
    refine e_ipush rfl ?_
    exact Eg.ret rfl (by decide) rfl ⟨congrArg (fun z => some (Value.int z)) (show ((-1) : Int32) = aHeight v x d from by unfold aHeight; grind), rfl⟩
  · replace b5 := yn_n0.mp b5
    refine e_iload rfl rfl ?_
    refine e_i2l rfl ?_
    refine e_lpush rfl ?_
    refine e_lpush rfl ?_
    refine Eg.p3 rfl (by decide) (by decide) rfl (Nat.le_of_ble_eq_true rfl) (xrcv_ofs (Or.inl rfl)) ((ms_inv (x := d) (y := 0) (z := 99999) rfl (by decide) (by decide)).mono (by decide)) ?_
    refine e_ifeq_b rfl (fun b17 => ?_) (fun b17 => ?_)
    · replace b17 := yn_0.mp b17
      refine e_ipush rfl ?_
      exact Eg.ret rfl (by decide) rfl ⟨congrArg (fun z => some (Value.int z)) (show ((-1) : Int32) = aHeight v x d from by unfold aHeight; grind), rfl⟩
    · replace b17 := yn_n0.mp b17
      obtain ⟨t, ht, et⟩ := nI_get b5 (by omega)
      subst et
      refine e_aload rfl rfl ?_
      refine e_iload rfl rfl ?_
      refine e_iload rfl rfl ?_
      refine Eg.p3 rfl (by decide) (by decide) rfl (Nat.le_of_ble_eq_true rfl) (xrcv_of rfl hM.1 rfl) ((ms_heightNow hM hv hw (c := t) (by omega)).mono (by decide)) ?_
      refine e_goto rfl ?_
      exact Eg.ret rfl (by decide) rfl ⟨congrArg (fun z => some (Value.int z)) (show (lv v t d : Int32) = aHeight v (nI t) d from by unfold aHeight; rw [if_pos ⟨b5, b17⟩, nI_clamp (by omega)]), rfl⟩
def aShip (v : Nat → Nat → Int32) (x y : Int32) : Int32 := if ¬ (x < 0 ∨ nI (cn v 4) ≤ x) then (if y = 0 then v 13 x.toNatClampNeg else if y = 1 then v 14 x.toNatClampNeg else if y = 2 then v 15 x.toNatClampNeg else if y = 3 then v 16 x.toNatClampNeg else if y = 4 then v 17 x.toNatClampNeg else if y = 5 then v 18 x.toNatClampNeg else -2) else -2
theorem cf_ship (hq : CQ sh I R w m s v) {x y : Int32} : Ec X 2 146 [.ref 0, .int x, .int y] (sh, I, L, R) (fun r h' => r = some (.int (aShip v x y)) ∧ h' = (sh, I, L, R)) := by
  obtain ⟨h0, r7, hWd, rm, hM, hms, hS, hV, hU, hw, hW⟩ := hq
  have hb := hw.1.2
  refine Ec.of (Nat.le_of_ble_eq_true rfl) ?_
  refine e_aload rfl rfl ?_
  refine e_getR rfl h0 r7 ?_
  refine e_getR rfl hWd rm ?_
  refine e_astore rfl ?_
  refine e_aload rfl rfl ?_
  refine e_getR rfl hM.1 hms ?_
  refine e_iload rfl rfl ?_
  refine Eg.p2 rfl (by decide) (by decide) rfl (Nat.le_of_ble_eq_true rfl) (xrcv_of rfl hS.1 rfl) ((cs_hasShipV hS hV).mono (by decide)) ?_
  refine e_ifne_b rfl (fun b16 => ?_) (fun b16 => ?_)
  · replace b16 := yn_n0.mp b16
    obtain ⟨t, ht, et⟩ := nI_get b16 (by omega)
    subst et
    refine e_iload rfl rfl ?_
    by_cases q0 : y = 0
    · subst q0
      refine e_tsw rfl (by decide) rfl ?_
      refine e_aload rfl rfl ?_
      refine e_getR rfl hM.1 (hM.2 0 _ rfl).2 ?_
      refine e_iload rfl rfl ?_
      refine e_ialv (t := t) (n := 4) rfl (hM.2 0 _ rfl).1 rfl (by omega) (by decide) (hW.2.2.1 t (by omega)).1 ?_
      exact Eg.ret rfl (by decide) rfl ⟨congrArg (fun z => some (Value.int z)) (show (v 13 t : Int32) = aShip v (nI t) 0 from by unfold aShip; rw [if_pos b16, if_pos rfl, nI_clamp (by omega)]), rfl⟩
    · by_cases q1 : y = 1
      · subst q1
        refine e_tsw rfl (by decide) rfl ?_
        refine e_aload rfl rfl ?_
        refine e_getR rfl hM.1 (hM.2 1 _ rfl).2 ?_
        refine e_iload rfl rfl ?_
        refine e_ialv (t := t) (n := 4) rfl (hM.2 1 _ rfl).1 rfl (by omega) (by decide) (hW.2.2.1 t (by omega)).2.1 ?_
        exact Eg.ret rfl (by decide) rfl ⟨congrArg (fun z => some (Value.int z)) (show (v 14 t : Int32) = aShip v (nI t) 1 from by unfold aShip; rw [if_pos b16, if_neg (by decide), if_pos rfl, nI_clamp (by omega)]), rfl⟩
      · by_cases q2 : y = 2
        · subst q2
          refine e_tsw rfl (by decide) rfl ?_
          refine e_aload rfl rfl ?_
          refine e_getR rfl hM.1 hms ?_
          refine e_getR rfl hS.1 (hS.2 10 _ rfl).2 ?_
          refine e_iload rfl rfl ?_
          refine e_ialv (t := t) (n := 4) rfl (hS.2 10 _ rfl).1 rfl (by omega) (by decide) (hV.2.2.2.2.2.2.2 t (by omega)).1 ?_
          exact Eg.ret rfl (by decide) rfl ⟨congrArg (fun z => some (Value.int z)) (show (v 15 t : Int32) = aShip v (nI t) 2 from by unfold aShip; rw [if_pos b16, if_neg (by decide), if_neg (by decide), if_pos rfl, nI_clamp (by omega)]), rfl⟩
        · by_cases q3 : y = 3
          · subst q3
            refine e_tsw rfl (by decide) rfl ?_
            refine e_aload rfl rfl ?_
            refine e_getR rfl hM.1 hms ?_
            refine e_getR rfl hS.1 (hS.2 11 _ rfl).2 ?_
            refine e_iload rfl rfl ?_
            refine e_ialv (t := t) (n := 4) rfl (hS.2 11 _ rfl).1 rfl (by omega) (by decide) (hV.2.2.2.2.2.2.2 t (by omega)).2 ?_
            exact Eg.ret rfl (by decide) rfl ⟨congrArg (fun z => some (Value.int z)) (show (v 16 t : Int32) = aShip v (nI t) 3 from by unfold aShip; rw [if_pos b16, if_neg (by decide), if_neg (by decide), if_neg (by decide), if_pos rfl, nI_clamp (by omega)]), rfl⟩
          · by_cases q4 : y = 4
            · subst q4
              refine e_tsw rfl (by decide) rfl ?_
              refine e_aload rfl rfl ?_
              refine e_getR rfl hM.1 (hM.2 2 _ rfl).2 ?_
              refine e_iload rfl rfl ?_
              refine e_ialv (t := t) (n := 4) rfl (hM.2 2 _ rfl).1 rfl (by omega) (by decide) (hW.2.2.1 t (by omega)).2.2.1 ?_
              exact Eg.ret rfl (by decide) rfl ⟨congrArg (fun z => some (Value.int z)) (show (v 17 t : Int32) = aShip v (nI t) 4 from by unfold aShip; rw [if_pos b16, if_neg (by decide), if_neg (by decide), if_neg (by decide), if_neg (by decide), if_pos rfl, nI_clamp (by omega)]), rfl⟩
            · by_cases q5 : y = 5
              · subst q5
                refine e_tsw rfl (by decide) rfl ?_
                refine e_aload rfl rfl ?_
                refine e_getR rfl hM.1 (hM.2 3 _ rfl).2 ?_
                refine e_iload rfl rfl ?_
                refine e_ialv (t := t) (n := 4) rfl (hM.2 3 _ rfl).1 rfl (by omega) (by decide) (hW.2.2.1 t (by omega)).2.2.2 ?_
                exact Eg.ret rfl (by decide) rfl ⟨congrArg (fun z => some (Value.int z)) (show (v 18 t : Int32) = aShip v (nI t) 5 from by unfold aShip; rw [if_pos b16, if_neg (by decide), if_neg (by decide), if_neg (by decide), if_neg (by decide), if_neg (by decide), if_pos rfl, nI_clamp (by omega)]), rfl⟩
              · refine e_tswd rfl (sw_out (n := 6) (by decide) (fun t ht e => by match t, ht with | 0, _ => exact q0 e | 1, _ => exact q1 e | 2, _ => exact q2 e | 3, _ => exact q3 e | 4, _ => exact q4 e | 5, _ => exact q5 e)) ?_
                refine e_ipush rfl ?_
                exact Eg.ret rfl (by decide) rfl ⟨congrArg (fun z => some (Value.int z)) (show ((-2) : Int32) = aShip v (nI t) y from by unfold aShip; rw [if_pos b16, if_neg q0, if_neg q1, if_neg q2, if_neg q3, if_neg q4, if_neg q5]), rfl⟩
  · replace b16 := yn_0.mp b16
    refine e_ipush rfl ?_
    exact Eg.ret rfl (by decide) rfl ⟨congrArg (fun z => some (Value.int z)) (show ((-2) : Int32) = aShip v x y from by unfold aShip; grind), rfl⟩
theorem md_ship (hM : MW sh R) (hv : mV I v) (hw : Wf v) {x y : Int32} : Ec X 3 247 [.ref 290, .int x, .int y] (sh, I, L, R) (fun r h' => r = some (.int (aShip v x y)) ∧ h' = (sh, I, L, R)) := by
  have hb := hw.1.2
  refine Ec.of (Nat.le_of_ble_eq_true rfl) ?_
  refine e_aload rfl rfl ?_
  refine e_iload rfl rfl ?_
  refine Eg.p2 rfl (by decide) (by decide) rfl (Nat.le_of_ble_eq_true rfl) (xrcv_of rfl hM.1 rfl) ((ms_isShip hM hv hw).mono (by decide)) ?_
  refine e_ifne_b rfl (fun b5 => ?_) (fun b5 => ?_)
  · replace b5 := yn_n0.mp b5
    obtain ⟨t, ht, et⟩ := nI_get b5 (by omega)
    subst et
    refine e_iload rfl rfl ?_
    by_cases q0 : y = 0
    · subst q0
      refine e_tsw rfl (by decide) rfl ?_
      refine e_aload rfl rfl ?_
      refine e_getR rfl hM.1 (hM.2 12 _ rfl).2 ?_
      refine e_iload rfl rfl ?_
      refine e_ialv (t := t) (n := 4) rfl (hM.2 12 _ rfl).1 rfl (by omega) (by decide) (hv 13 t (by decide)) ?_
      exact Eg.ret rfl (by decide) rfl ⟨congrArg (fun z => some (Value.int z)) (show (v 13 t : Int32) = aShip v (nI t) 0 from by unfold aShip; rw [if_pos b5, if_pos rfl, nI_clamp (by omega)]), rfl⟩
    · by_cases q1 : y = 1
      · subst q1
        refine e_tsw rfl (by decide) rfl ?_
        refine e_aload rfl rfl ?_
        refine e_getR rfl hM.1 (hM.2 13 _ rfl).2 ?_
        refine e_iload rfl rfl ?_
        refine e_ialv (t := t) (n := 4) rfl (hM.2 13 _ rfl).1 rfl (by omega) (by decide) (hv 14 t (by decide)) ?_
        exact Eg.ret rfl (by decide) rfl ⟨congrArg (fun z => some (Value.int z)) (show (v 14 t : Int32) = aShip v (nI t) 1 from by unfold aShip; rw [if_pos b5, if_neg (by decide), if_pos rfl, nI_clamp (by omega)]), rfl⟩
      · by_cases q2 : y = 2
        · subst q2
          refine e_tsw rfl (by decide) rfl ?_
          refine e_aload rfl rfl ?_
          refine e_getR rfl hM.1 (hM.2 14 _ rfl).2 ?_
          refine e_iload rfl rfl ?_
          refine e_ialv (t := t) (n := 4) rfl (hM.2 14 _ rfl).1 rfl (by omega) (by decide) (hv 15 t (by decide)) ?_
          exact Eg.ret rfl (by decide) rfl ⟨congrArg (fun z => some (Value.int z)) (show (v 15 t : Int32) = aShip v (nI t) 2 from by unfold aShip; rw [if_pos b5, if_neg (by decide), if_neg (by decide), if_pos rfl, nI_clamp (by omega)]), rfl⟩
        · by_cases q3 : y = 3
          · subst q3
            refine e_tsw rfl (by decide) rfl ?_
            refine e_aload rfl rfl ?_
            refine e_getR rfl hM.1 (hM.2 15 _ rfl).2 ?_
            refine e_iload rfl rfl ?_
            refine e_ialv (t := t) (n := 4) rfl (hM.2 15 _ rfl).1 rfl (by omega) (by decide) (hv 16 t (by decide)) ?_
            exact Eg.ret rfl (by decide) rfl ⟨congrArg (fun z => some (Value.int z)) (show (v 16 t : Int32) = aShip v (nI t) 3 from by unfold aShip; rw [if_pos b5, if_neg (by decide), if_neg (by decide), if_neg (by decide), if_pos rfl, nI_clamp (by omega)]), rfl⟩
          · by_cases q4 : y = 4
            · subst q4
              refine e_tsw rfl (by decide) rfl ?_
              refine e_aload rfl rfl ?_
              refine e_getR rfl hM.1 (hM.2 16 _ rfl).2 ?_
              refine e_iload rfl rfl ?_
              refine e_ialv (t := t) (n := 4) rfl (hM.2 16 _ rfl).1 rfl (by omega) (by decide) (hv 17 t (by decide)) ?_
              exact Eg.ret rfl (by decide) rfl ⟨congrArg (fun z => some (Value.int z)) (show (v 17 t : Int32) = aShip v (nI t) 4 from by unfold aShip; rw [if_pos b5, if_neg (by decide), if_neg (by decide), if_neg (by decide), if_neg (by decide), if_pos rfl, nI_clamp (by omega)]), rfl⟩
            · by_cases q5 : y = 5
              · subst q5
                refine e_tsw rfl (by decide) rfl ?_
                refine e_aload rfl rfl ?_
                refine e_getR rfl hM.1 (hM.2 17 _ rfl).2 ?_
                refine e_iload rfl rfl ?_
                refine e_ialv (t := t) (n := 4) rfl (hM.2 17 _ rfl).1 rfl (by omega) (by decide) (hv 18 t (by decide)) ?_
                exact Eg.ret rfl (by decide) rfl ⟨congrArg (fun z => some (Value.int z)) (show (v 18 t : Int32) = aShip v (nI t) 5 from by unfold aShip; rw [if_pos b5, if_neg (by decide), if_neg (by decide), if_neg (by decide), if_neg (by decide), if_neg (by decide), if_pos rfl, nI_clamp (by omega)]), rfl⟩
              · refine e_tswd rfl (sw_out (n := 6) (by decide) (fun t ht e => by match t, ht with | 0, _ => exact q0 e | 1, _ => exact q1 e | 2, _ => exact q2 e | 3, _ => exact q3 e | 4, _ => exact q4 e | 5, _ => exact q5 e)) ?_
                refine e_ipush rfl ?_
                exact Eg.ret rfl (by decide) rfl ⟨congrArg (fun z => some (Value.int z)) (show ((-2) : Int32) = aShip v (nI t) y from by unfold aShip; rw [if_pos b5, if_neg q0, if_neg q1, if_neg q2, if_neg q3, if_neg q4, if_neg q5]), rfl⟩
  · replace b5 := yn_0.mp b5
    refine e_ipush rfl ?_
    exact Eg.ret rfl (by decide) rfl ⟨congrArg (fun z => some (Value.int z)) (show ((-2) : Int32) = aShip v x y from by unfold aShip; grind), rfl⟩
end QU
