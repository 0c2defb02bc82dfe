/-! rent, storms -/
section QX
variable {X : xX} {h : xH} {sh : List (Nat × Nat)} {I : Nat → Nat → Int32} {L : Nat → Nat → Int64} {R : Nat → Nat → Option Nat} {v : Nat → Nat → Int32} {w s m : Nat}
def opN (v : Nat → Nat → Int32) (p : Nat) (d : Int32) : Bool := decide (lv v (pcl v p) d ≤ plm v p)
def rtN (v : Nat → Nat → Int32) (p : Nat) (d : Int32) : Nat → Nat := cntN (fun j => opN v p (d + nI j))
def aRent (v : Nat → Nat → Int32) (x d n : Int32) : Int32 := if (¬ (x < 0 ∨ 3 < x) ∧ plc v (4 + x) = true) ∧ ¬ (d < 0 ∨ 9999 < d) ∧ ¬ (n < 0 ∨ 400 < n) then nI (rtN v (4 + x.toNatClampNeg) d n.toNatClampNeg) * pco v (4 + x.toNatClampNeg) else -1
theorem town_get {x : Int32} (h : ¬ (x < 0 ∨ 3 < x)) : ∃ t, t < 4 ∧ x = nI t := by
  obtain ⟨t, ht, e⟩ := nI_of2 (x := x) (M := 3) (n := 3) (by decide) (fun q => h (Or.inl q)) (Int32.not_lt.mp (fun q => h (Or.inr q)))
  exact ⟨t, by omega, e⟩
theorem n400_get {x : Int32} (h : ¬ (x < 0 ∨ 400 < x)) : ∃ t, t ≤ 400 ∧ x = nI t := nI_of2 (x := x) (M := 400) (n := 400) (by decide) (fun q => h (Or.inl q)) (Int32.not_lt.mp (fun q => h (Or.inr q)))
theorem nI_big {n : Nat} (h : 2 ^ 31 ≤ n) (h2 : n < 2 ^ 32) : nI n < 0 := by
  rw [Int32.lt_iff_toInt_lt]
  have e : (nI n).toInt = (n : Int).bmod (2 ^ 32) := by
    show (Int32.ofNat n).toBitVec.toInt = _
    rw [show (Int32.ofNat n).toBitVec = BitVec.ofNat 32 n from rfl, BitVec.toInt_eq_toNat_bmod, BitVec.toNat_ofNat, Nat.mod_eq_of_lt h2]
  have z : (0 : Int32).toInt = 0 := by decide
  rw [e, z]
  simp [Int.bmod]
  omega
theorem town_of {x : Int32} (hw : Wf v) (h : plc v (4 + x) = true) (h0 : ¬ x < 0) : ¬ (x < 0 ∨ 3 < x) := by
  have hb := hw.1.2
  obtain ⟨t, ht, ex⟩ := nI_of h0
  have e2 : (4 : Int32) + nI t = nI (4 + t) := nI_add 4 t
  rcases plc_iff.mp h with ⟨h1, h2⟩ | ⟨h1, h2⟩
  · exfalso
    rw [ex, e2] at h1 h2
    by_cases hc : 4 + t < 2 ^ 31
    · exact nI_nlt (b := 4) (by omega) hc h1
    · exact h2 (Or.inl (nI_big (by omega) (by omega)))
  · rw [show (4 : Int32) + x - 4 = x by grind] at h2
    intro q
    rcases q with q | q
    · exact h0 q
    · rw [ex] at h2 q
      apply h2
      have h3 : 3 < t := by
        apply Decidable.byContradiction; intro hc
        exact nI_nlt (a := 3) (b := t) (by omega) (by omega) q
      exact nI_le (by omega) (by omega)
theorem cf_rent (hq : CQ sh I R w m s v) {x d n : Int32} : Ec X 5 165 [.ref 0, .int x, .int d, .int n] (sh, I, L, R) (fun r h' => r = some (.int (aRent v x d n)) ∧ h' = (sh, I, L, R)) := by
  obtain ⟨h0, r7, hWd, rm, hM, hms, hS, hV, hU, hw, hW⟩ := hq
  have hb := hw.1.2
  refine Ec.of (Nat.le_of_ble_eq_true rfl) ?_
  refine e_aload rfl rfl ?_
  refine e_getR rfl h0 r7 ?_
  refine e_getR rfl hWd rm ?_
  refine e_astore rfl ?_
  refine e_iload rfl rfl ?_
  refine e_ipush rfl ?_
  refine e_ipush rfl ?_
  refine Eg.p3 rfl (by decide) (by decide) rfl (Nat.le_of_ble_eq_true rfl) (xrcv_ofs (Or.inl rfl)) (cs_withinY.mono (by decide)) ?_
  refine e_ifeq_b rfl (fun bt => ?_) (fun bt => ?_)
  · replace bt := yn_0.mp bt
    refine e_ipush rfl ?_
    exact Eg.ret rfl (by decide) rfl ⟨congrArg (fun z => some (Value.int z)) (show ((-1) : Int32) = aRent v x d n from by unfold aRent; rw [if_neg (by grind)]), rfl⟩
  · replace bt := yn_n0.mp bt
    refine e_aload rfl rfl ?_
    refine e_getR rfl hM.1 hms ?_
    refine e_ipush rfl ?_
    refine e_iload rfl rfl ?_
    refine e_iadd rfl ?_
    refine Eg.p2 rfl (by decide) (by decide) rfl (Nat.le_of_ble_eq_true rfl) (xrcv_of rfl hS.1 rfl) ((cs_hasPlace hS hV).mono (by decide)) ?_
    refine e_ifne_b rfl (fun bp => ?_) (fun bp => ?_)
    · replace bp := yn_n0.mp bp
      refine e_iload rfl rfl ?_
      refine Eg.p1 rfl (by decide) (by decide) rfl (Nat.le_of_ble_eq_true rfl) (xrcv_ofs (Or.inl rfl)) (cs_isDayY.mono (by decide)) ?_
      refine e_ifeq_b rfl (fun bd => ?_) (fun bd => ?_)
      · replace bd := yn_0.mp bd
        refine e_ipush rfl ?_
        exact Eg.ret rfl (by decide) rfl ⟨congrArg (fun z => some (Value.int z)) (show ((-1) : Int32) = aRent v x d n from by unfold aRent; rw [if_neg (by grind)]), rfl⟩
      · replace bd := yn_n0.mp bd
        refine e_iload rfl rfl ?_
        refine e_ipush rfl ?_
        refine e_ipush rfl ?_
        refine Eg.p3 rfl (by decide) (by decide) rfl (Nat.le_of_ble_eq_true rfl) (xrcv_ofs (Or.inl rfl)) (cs_withinY.mono (by decide)) ?_
        refine e_ifne_b rfl (fun bn => ?_) (fun bn => ?_)
        · replace bn := yn_n0.mp bn
          obtain ⟨t, ht, et⟩ := town_get bt
          subst et
          rw [show (4 : Int32) + nI t = nI (4 + t) from nI_add 4 t] at bp
          obtain ⟨t4, et4, hp⟩ := plc_get bp hw
          have ht4 : 4 + t = t4 := (nI_eq (by omega) (by have := hp.lt hw; omega)).mp et4
          subst ht4
          obtain ⟨k, hk, ek⟩ := n400_get bn
          subst ek
          refine e_ipush rfl ?_
          refine e_istore rfl ?_
          refine e_ipush rfl ?_
          refine e_istore rfl ?_
          refine Eg.pk [0, 1, 2, 3, 4, 5, 6] [6, 5, 4, 0, 1, 2, 3] rfl (by decide) ?_
          refine up_ind (p := fun j => Eg X xTc _ 165 60 [(0, .ref 0), (1, .int (nI t)), (2, .int d), (3, .int (nI k)), (4, .ref m), (5, .int (nI (cntN (fun j => opN v (4 + t) (d + nI j)) j))), (6, .int (nI j))] [] (sh, I, L, R) _) (n := k) (j := 0) (fun j hj ih => ?_) ?_ (Nat.zero_le _)
          · refine e_iload rfl rfl ?_
            refine e_iload rfl rfl ?_
            refine e_cge_f rfl (nI_ge hj (by omega)) ?_
            refine e_aload rfl rfl ?_
            refine e_ipush rfl ?_
            refine e_iload rfl rfl ?_
            refine e_iadd rfl ?_
            rw [show 4 + (nI t) = nI (4 + t) from nI_add 4 t]
            refine e_iload rfl rfl ?_
            refine e_iload rfl rfl ?_
            refine e_iadd rfl ?_
            refine Eg.p3 rfl (by decide) (by decide) rfl (Nat.le_of_ble_eq_true rfl) (xrcv_of rfl hM.1 rfl) ((cs_isOpen hS hV hw hM hms hW (p := 4 + t) (by assumption)).mono (by decide)) ?_
            refine e_ifeq_b rfl (fun b78 => ?_) (fun b78 => ?_)
            · replace b78 := yn_0.mp b78
              refine e_iinc rfl rfl ?_
              refine e_goto rfl ?_
              refine Eg.pk [0, 1, 2, 3, 4, 5, 6] [6, 0, 1, 2, 3, 4, 5] rfl (by decide) ?_
              rw [nI_1, ← cntN_f (q := (fun j => opN v (4 + t) (d + nI j))) (decide_eq_false b78)]
              exact ih
            · replace b78 := yn_n0.mp b78
              refine e_iinc rfl rfl ?_
              refine e_iinc rfl rfl ?_
              refine e_goto rfl ?_
              refine Eg.pk [0, 1, 2, 3, 4, 5, 6] [6, 5, 0, 1, 2, 3, 4] rfl (by decide) ?_
              rw [nI_1, nI_1, ← cntN_t (q := (fun j => opN v (4 + t) (d + nI j))) (decide_eq_true b78)]
              exact ih
          · refine e_iload rfl rfl ?_
            refine e_iload rfl rfl ?_
            refine e_cge_t rfl (Int32.le_refl _) ?_
            refine e_iload rfl rfl ?_
            refine e_aload rfl rfl ?_
            refine e_getR rfl hM.1 hms ?_
            refine e_getR rfl hS.1 (hS.2 8 _ rfl).2 ?_
            refine e_ipush rfl ?_
            refine e_iload rfl rfl ?_
            refine e_iadd rfl ?_
            rw [show 4 + (nI t) = nI (4 + t) from nI_add 4 t]
            refine e_ialv (t := (4 + t)) (n := 8) rfl (hS.2 8 _ rfl).1 rfl (by omega) (by decide) (hV.p (p := ((4 + t))) (by assumption) hw).2.2 ?_
            refine e_imul rfl ?_
            exact Eg.ret rfl (by decide) rfl ⟨congrArg (fun z => some (Value.int z)) (show ((nI (cntN (fun j => opN v (4 + t) (d + nI j)) k)) * (pco v ((4 + t))) : Int32) = aRent v (nI t) d (nI k) from by unfold aRent; rw [if_pos ⟨⟨bt, by rw [show (4 : Int32) + nI t = nI (4 + t) from nI_add 4 t]; exact bp⟩, bd, bn⟩, nI_clamp (by omega), nI_clamp (by omega)]; rfl), rfl⟩
        · replace bn := yn_0.mp bn
          refine e_ipush rfl ?_
          exact Eg.ret rfl (by decide) rfl ⟨congrArg (fun z => some (Value.int z)) (show ((-1) : Int32) = aRent v x d n from by unfold aRent; rw [if_neg (by grind)]), rfl⟩
    · replace bp := yn_0.mp bp
      refine e_ipush rfl ?_
      exact Eg.ret rfl (by decide) rfl ⟨congrArg (fun z => some (Value.int z)) (show ((-1) : Int32) = aRent v x d n from by unfold aRent; rw [if_neg (by grind)]), rfl⟩
theorem md_rent (hM : MW sh R) (hv : mV I v) (hw : Wf v) {x d n : Int32} : Ec X 5 295 [.ref 290, .int x, .int d, .int n] (sh, I, L, R) (fun r h' => r = some (.int (aRent v x d n)) ∧ h' = (sh, I, L, R)) := by
  have hb := hw.1.2
  refine Ec.of (Nat.le_of_ble_eq_true rfl) ?_
  refine e_aload rfl rfl ?_
  refine e_ipush rfl ?_
  refine e_iload rfl rfl ?_
  refine e_iadd rfl ?_
  refine Eg.p2 rfl (by decide) (by decide) rfl (Nat.le_of_ble_eq_true rfl) (xrcv_of rfl hM.1 rfl) ((ms_isPlace hM hv hw).mono (by decide)) ?_
  refine e_ifeq_b rfl (fun bp => ?_) (fun bp => ?_)
  · replace bp := yn_0.mp bp
    refine e_ipush rfl ?_
    exact Eg.ret rfl (by decide) rfl ⟨congrArg (fun z => some (Value.int z)) (show ((-1) : Int32) = aRent v x d n from by unfold aRent; rw [if_neg (by grind)]), rfl⟩
  · replace bp := yn_n0.mp bp
    refine e_iload rfl rfl ?_
    refine e_iflt_b rfl (fun b11 => ?_) (fun b11 => ?_)
    · refine e_ipush rfl ?_
      exact Eg.ret rfl (by decide) rfl ⟨congrArg (fun z => some (Value.int z)) (show ((-1) : Int32) = aRent v x d n from by unfold aRent; rw [if_neg (by grind)]), rfl⟩
    · refine e_iload rfl rfl ?_
      refine Eg.p1 rfl (by decide) (by decide) rfl (Nat.le_of_ble_eq_true rfl) (xrcv_ofs (Or.inl rfl)) (ms_isDay.mono (by decide)) ?_
      refine e_ifeq_b rfl (fun bd => ?_) (fun bd => ?_)
      · replace bd := yn_0.mp bd
        refine e_ipush rfl ?_
        exact Eg.ret rfl (by decide) rfl ⟨congrArg (fun z => some (Value.int z)) (show ((-1) : Int32) = aRent v x d n from by unfold aRent; rw [if_neg (by grind)]), rfl⟩
      · replace bd := yn_n0.mp bd
        refine e_iload rfl rfl ?_
        refine e_i2l rfl ?_
        refine e_lpush rfl ?_
        refine e_lpush rfl ?_
        refine Eg.p3 rfl (by decide) (by decide) rfl (Nat.le_of_ble_eq_true rfl) (xrcv_ofs (Or.inl rfl)) ((ms_inv (x := n) (y := 0) (z := 400) rfl (by decide) (by decide)).mono (by decide)) ?_
        refine e_ifne_b rfl (fun bn => ?_) (fun bn => ?_)
        · replace bn := yn_n0.mp bn
          have bt := town_of hw bp b11
          obtain ⟨t, ht, et⟩ := town_get bt
          subst et
          rw [show (4 : Int32) + nI t = nI (4 + t) from nI_add 4 t] at bp
          obtain ⟨t4, et4, hp⟩ := plc_get bp hw
          have ht4 : 4 + t = t4 := (nI_eq (by omega) (by have := hp.lt hw; omega)).mp et4
          subst ht4
          obtain ⟨k, hk, ek⟩ := n400_get bn
          subst ek
          obtain ⟨e, he, ed⟩ := day_get bd
          refine e_ipush rfl ?_
          refine e_istv (y := nI (cntN (fun j => opN v (4 + t) (d + nI j)) 0) * pco v (4 + t)) rfl (show (0 : Int32) = nI 0 * _ by rw [nI_0, Int32.zero_mul]) ?_
          refine e_iload rfl rfl ?_
          refine e_istv (y := d + nI 0) rfl (Int32.add_zero d).symm ?_
          refine Eg.pk [0, 1, 2, 3, 4, 5] [5, 4, 0, 1, 2, 3] rfl (by decide) ?_
          refine up_ind (p := fun j => Eg X xTc _ 295 41 [(0, .ref 290), (1, .int (nI t)), (2, .int d), (3, .int (nI k)), (4, .int (nI (cntN (fun j => opN v (4 + t) (d + nI j)) j) * pco v (4 + t))), (5, .int (d + nI j))] [] (sh, I, L, R) _) (n := k) (j := 0) (fun j hj ih => ?_) ?_ (Nat.zero_le _)
          · refine e_iload rfl rfl ?_
            refine e_iload rfl rfl ?_
            refine e_iload rfl rfl ?_
            refine e_iadd rfl ?_
            refine e_cge_f rfl (by rw [ed, nI_add, nI_add]; exact nI_ge (by omega) (by omega)) ?_
            refine e_iload rfl rfl ?_
            refine e_aload rfl rfl ?_
            refine e_ipush rfl ?_
            refine e_iload rfl rfl ?_
            refine e_iadd rfl ?_
            rw [show 4 + (nI t) = nI (4 + t) from nI_add 4 t]
            refine e_iload rfl rfl ?_
            refine e_ipush rfl ?_
            refine e_ipush rfl ?_
            refine Eg.p5 rfl (by decide) (by decide) rfl (Nat.le_of_ble_eq_true rfl) (xrcv_of rfl hM.1 rfl) ((ms_isOpen1 hM hv hw (p := (4 + t)) (by assumption)).mono (by decide)) ?_
            refine e_ifeq_b rfl (fun b62 => ?_) (fun b62 => ?_)
            · replace b62 := yn_0.mp b62
              refine e_ipush rfl ?_
              refine e_iadd rfl ?_
              refine e_istore rfl ?_
              refine e_iinc rfl rfl ?_
              refine e_goto rfl ?_
              refine Eg.pk [0, 1, 2, 3, 4, 5] [5, 4, 0, 1, 2, 3] rfl (by decide) ?_
              rw [Int32.add_assoc, nI_1, show nI (cntN (fun j => opN v (4 + t) (d + nI j)) j) * pco v (4 + t) + 0 = nI (cntN (fun j => opN v (4 + t) (d + nI j)) (j + 1)) * pco v (4 + t) by rw [cntN_f (q := (fun j => opN v (4 + t) (d + nI j))) (decide_eq_false b62)]; grind]
              exact ih
            · replace b62 := yn_n0.mp b62
              refine e_aload rfl rfl ?_
              refine e_getR rfl hM.1 (hM.2 11 _ rfl).2 ?_
              refine e_iload rfl rfl ?_
              refine e_ialv (t := t) (n := 4) rfl (hM.2 11 _ rfl).1 rfl (by omega) (by decide) ((hv 12 t (by decide)).trans (show v 12 t = pco v (4 + t) by unfold pco; rw [if_neg (by omega), Nat.add_sub_cancel_left])) ?_
              refine e_goto rfl ?_
              refine e_iadd rfl ?_
              refine e_istore rfl ?_
              refine e_iinc rfl rfl ?_
              refine e_goto rfl ?_
              refine Eg.pk [0, 1, 2, 3, 4, 5] [5, 4, 0, 1, 2, 3] rfl (by decide) ?_
              rw [Int32.add_assoc, nI_1, show nI (cntN (fun j => opN v (4 + t) (d + nI j)) j) * pco v (4 + t) + pco v (4 + t) = nI (cntN (fun j => opN v (4 + t) (d + nI j)) (j + 1)) * pco v (4 + t) by rw [cntN_t (q := (fun j => opN v (4 + t) (d + nI j))) (decide_eq_true b62), ← nI_1]; grind]
              exact ih
          · refine e_iload rfl rfl ?_
            refine e_iload rfl rfl ?_
            refine e_iload rfl rfl ?_
            refine e_iadd rfl ?_
            refine e_cge_t rfl (Int32.le_refl _) ?_
            refine e_iload rfl rfl ?_
            exact Eg.ret rfl (by decide) rfl ⟨congrArg (fun z => some (Value.int z)) (show (nI (cntN (fun j => opN v (4 + t) (d + nI j)) k) * pco v (4 + t) : Int32) = aRent v (nI t) d (nI k) from by unfold aRent; rw [if_pos ⟨⟨bt, by rw [show (4 : Int32) + nI t = nI (4 + t) from nI_add 4 t]; exact bp⟩, bd, bn⟩, nI_clamp (by omega), nI_clamp (by omega)]; rfl), rfl⟩
        · replace bn := yn_0.mp bn
          refine e_ipush rfl ?_
          exact Eg.ret rfl (by decide) rfl ⟨congrArg (fun z => some (Value.int z)) (show ((-1) : Int32) = aRent v x d n from by unfold aRent; rw [if_neg (by grind)]), rfl⟩
/-- in how many ways i of n -/
def chs (n : Nat) : Nat → Nat := itN (fun j r => r * (n - j) / (j + 1)) 1
theorem chs_le {n i : Nat} (hn : n < 13) (hi : i < 14) : chs n i ≤ 924 := by
  have h : ∀ n, n < 13 → ∀ i, i < 14 → chs n i ≤ 924 := by decide +kernel
  exact h n hn i hi
/-- a summand -/
def stT (a b n i : Nat) : Nat := chs n i * a ^ i * b ^ (n - i)
theorem stT_le {a b n i : Nat} (ha : a ≤ 9) (hb : b ≤ 9) (hn : n < 13) (hi : i ≤ n) : stT a b n i ≤ 260964891708444 ∧ chs n i * a ^ i ≤ 260964891708444 := by
  have h1 := chs_le (n := n) (i := i) hn (by omega)
  have h2 : a ^ i ≤ 9 ^ i := Nat.pow_le_pow_left ha i
  have h3 : b ^ (n - i) ≤ 9 ^ (n - i) := Nat.pow_le_pow_left hb _
  have h4 : 9 ^ i * 9 ^ (n - i) = 9 ^ n := by rw [← Nat.pow_add]; congr 1; omega
  have h5 : 9 ^ n ≤ 282429536481 := Nat.le_trans (Nat.pow_le_pow_right (n := 9) (j := 12) (by decide) (by omega)) (by decide)
  have h6 : 9 ^ i ≤ 282429536481 := Nat.le_trans (Nat.pow_le_pow_right (n := 9) (j := 12) (by decide) (by omega)) (by decide)
  have h7 : a ^ i * b ^ (n - i) ≤ 282429536481 := Nat.le_trans (Nat.mul_le_mul h2 h3) (by rw [h4]; exact h5)
  unfold stT
  rw [Nat.mul_assoc]
  exact ⟨Nat.mul_le_mul h1 h7, Nat.mul_le_mul h1 (Nat.le_trans h2 h6)⟩
/-- the sum from k on, m of them -/
def stS (a b n k : Nat) : Nat → Nat := itN (fun j z => z + stT a b n (k + j)) 0
theorem stS_le {a b n k m : Nat} (ha : a ≤ 9) (hb : b ≤ 9) (hn : n < 13) (hm : k + m ≤ n + 1) : stS a b n k m ≤ m * 260964891708444 := by
  induction m with
  | zero => exact Nat.zero_le _
  | succ m ih =>
    have h1 := ih (by omega)
    have h2 := (stT_le (i := k + m) ha hb hn (by omega)).1
    show stS a b n k m + stT a b n (k + m) ≤ _
    rw [Nat.succ_mul]
    exact Nat.add_le_add h1 h2
def aStorms (v : Nat → Nat → Int32) (n k y : Int32) : Int64 := if ¬ cn v 0 = 0 ∧ ¬ (n < 0 ∨ 12 < n) ∧ ¬ (k < 0 ∨ 13 < k) ∧ ¬ (y < 0 ∨ 1 < y) then (let u := stS (cn v 5) (cn v 6 - cn v 5) n.toNatClampNeg k.toNatClampNeg (n.toNatClampNeg + 1 - k.toNatClampNeg); let b := cn v 6 ^ n.toNatClampNeg; lN (if y = 0 then u / Nat.gcd u b else b / Nat.gcd u b)) else -1
theorem n12_get {x : Int32} (h : ¬ (x < 0 ∨ 12 < x)) : ∃ t, t < 13 ∧ x = nI t := by
  obtain ⟨t, ht, e⟩ := nI_of2 (x := x) (M := 12) (n := 12) (by decide) (fun q => h (Or.inl q)) (Int32.not_lt.mp (fun q => h (Or.inr q)))
  exact ⟨t, by omega, e⟩
theorem n13_get {x : Int32} (h : ¬ (x < 0 ∨ 13 < x)) : ∃ t, t < 14 ∧ x = nI t := by
  obtain ⟨t, ht, e⟩ := nI_of2 (x := x) (M := 13) (n := 13) (by decide) (fun q => h (Or.inl q)) (Int32.not_lt.mp (fun q => h (Or.inr q)))
  exact ⟨t, by omega, e⟩
theorem cs_choices {n i : Nat} (hn : n < 13) (hi : i ≤ n) : Ec X 1 180 [.int (nI n), .int (nI i)] h (fun r h' => r = some (.long (lN (chs n i))) ∧ h' = h) := by
  refine Ec.of (Nat.le_of_ble_eq_true rfl) ?_
  refine e_lpush rfl ?_
  refine e_lstore rfl ?_
  refine e_ipush rfl ?_
  refine e_istore rfl ?_
  refine Eg.pk [0, 1, 2, 4] [4, 2, 0, 1] rfl (by decide) ?_
  refine up_ind (p := fun j => Eg X xTc _ 180 5 [(0, .int (nI n)), (1, .int (nI i)), (2, .long (lN (chs n j))), (4, .int (nI j))] [] h _) (n := i) (j := 0) (fun j hj ih => ?_) ?_ (Nat.zero_le _)
  · refine e_iload rfl rfl ?_
    refine e_iload rfl rfl ?_
    refine e_cge_f rfl (nI_ge hj (by omega)) ?_
    have hc := chs_le (n := n) (i := j) hn (by omega)
    have hm : chs n j * (n - j) ≤ 924 * 12 := Nat.mul_le_mul hc (by omega)
    refine e_lload rfl rfl ?_
    refine e_iload rfl rfl ?_
    refine e_iload rfl rfl ?_
    refine e_isub rfl ?_
    rw [show (nI n) - (nI j) = nI (n - j) from nI_sub (by omega)]
    refine e_i2l rfl ?_
    refine e_lmul rfl ?_
    refine e_iload rfl rfl ?_
    refine e_ipush rfl ?_
    refine e_iadd rfl ?_
    rw [show (nI j) + 1 = nI (j + 1) from nI_1 j]
    refine e_i2l rfl ?_
    refine e_ldiv rfl (by rw [nI_l (by omega)]; exact lN_ne0 (by omega) (by omega)) ?_
    refine e_lstore rfl ?_
    refine e_iinc rfl rfl ?_
    refine e_goto rfl ?_
    refine Eg.pk [0, 1, 2, 4] [4, 2, 0, 1] rfl (by decide) ?_
    rw [nI_l (by omega), nI_l (by omega), lN_mul, lN_div (by omega) (by omega), nI_1]
    exact ih
  · refine e_iload rfl rfl ?_
    refine e_iload rfl rfl ?_
    refine e_cge_t rfl (Int32.le_refl _) ?_
    refine e_lload rfl rfl ?_
    exact Eg.ret rfl (by decide) rfl ⟨rfl, rfl⟩
theorem cf_storms_loop {n k : Nat} {y : Int32} (hq : CQ sh I R w m s v) (hn : n < 13) (hk : k < 14) (bs : ¬ cn v 0 = 0) (by_ : ¬ (y < 0 ∨ 1 < y)) (bn : ¬ (nI n < 0 ∨ 12 < nI n)) (bk : ¬ (nI k < 0 ∨ 13 < nI k)) : Eg X xTc 2 168 59 [(0, .ref 0), (1, .int (nI n)), (2, .int (nI k)), (3, .int y), (4, .ref s), (5, .long (lN 0)), (7, .int (nI k))] [] (sh, I, L, R) (fun r h' => r = some (.long (aStorms v (nI n) (nI k) y)) ∧ h' = (sh, I, L, R)) := by
  obtain ⟨h0, r7, hWd, rm, hM, hms, hS, hV, hU, hw, hW⟩ := hq
  have hb := hw.1.2
  have hS1 : ∀ m, k + m ≤ n + 1 → stS (cn v 5) (cn v 6 - cn v 5) n k m ≤ 3392543592209772 := fun m hm => Nat.le_trans (stS_le (by omega) (by omega) hn hm) (by omega)
  have hpw : cn v 6 ^ n ≤ 282429536481 := Nat.le_trans (Nat.pow_le_pow_left (show cn v 6 ≤ 9 by omega) n) (Nat.le_trans (Nat.pow_le_pow_right (n := 9) (j := 12) (by decide) (by omega)) (by decide))
  have hpos : 0 < cn v 6 ^ n := Nat.pow_pos (by omega)
  have hfin := hS1 (n + 1 - k)
  by_cases hkn : k ≤ n + 1
  · have hfin := hfin (by omega)
    refine Eg.pk [0, 1, 2, 3, 4, 5, 7] [0, 1, 2, 3, 4, 5, 7] rfl (by decide) ?_
    refine up_ind (p := fun j => Eg X xTc _ 168 59 [(0, .ref 0), (1, .int (nI n)), (2, .int (nI k)), (3, .int y), (4, .ref s), (5, .long (lN (stS (cn v 5) (cn v 6 - cn v 5) n k j))), (7, .int (nI (k + j)))] [] (sh, I, L, R) _) (n := n + 1 - k) (j := 0) (fun j hj ih => ?_) ?_ (Nat.zero_le _)
    · refine e_iload rfl rfl ?_
      refine e_iload rfl rfl ?_
      refine e_cgt_f rfl (nI_nlt (by omega) (by omega)) ?_
      refine e_lload rfl rfl ?_
      refine e_iload rfl rfl ?_
      refine e_iload rfl rfl ?_
      refine Eg.p2 rfl (by decide) (by decide) rfl (Nat.le_of_ble_eq_true rfl) (xrcv_ofs (Or.inl rfl)) ((cs_choices (n := n) (i := k + j) (by omega) (by omega)).mono (by decide)) ?_
      refine e_aload rfl rfl ?_
      refine e_getIv rfl hS.1 hV.2.1 ?_
      refine e_i2l rfl ?_
      refine e_iload rfl rfl ?_
      refine Eg.p2 rfl (by decide) (by decide) rfl (Nat.le_of_ble_eq_true rfl) (xrcv_ofs (Or.inl rfl)) ((by rw [show ((nI (cn v 5)).toInt64 : Int64) = lN (cn v 5) from nI_l (by omega)]; exact (cs_power (a := cn v 5) (n := k + j) (by omega)).mono (by decide))) ?_
      refine e_lmul rfl ?_
      refine e_aload rfl rfl ?_
      refine e_getIv rfl hS.1 hV.2.2.1 ?_
      refine e_aload rfl rfl ?_
      refine e_getIv rfl hS.1 hV.2.1 ?_
      refine e_isub rfl ?_
      rw [show (nI (cn v 6)) - (nI (cn v 5)) = nI (cn v 6 - cn v 5) from nI_sub (by omega)]
      refine e_i2l rfl ?_
      refine e_iload rfl rfl ?_
      refine e_iload rfl rfl ?_
      refine e_isub rfl ?_
      rw [show (nI n) - (nI (k + j)) = nI (n - (k + j)) from nI_sub (by omega)]
      refine Eg.p2 rfl (by decide) (by decide) rfl (Nat.le_of_ble_eq_true rfl) (xrcv_ofs (Or.inl rfl)) ((by rw [show ((nI (cn v 6 - cn v 5)).toInt64 : Int64) = lN (cn v 6 - cn v 5) from nI_l (by omega)]; exact (cs_power (a := cn v 6 - cn v 5) (n := n - (k + j)) (by omega)).mono (by decide))) ?_
      refine e_lmul rfl ?_
      refine e_ladd rfl ?_
      refine e_lstore rfl ?_
      refine e_iinc rfl rfl ?_
      refine e_goto rfl ?_
      refine Eg.pk [0, 1, 2, 3, 4, 5, 7] [7, 5, 0, 1, 2, 3, 4] rfl (by decide) ?_
      rw [lN_mul, lN_mul, lN_add, nI_1]
      exact ih
    · refine e_iload rfl rfl ?_
      refine e_iload rfl rfl ?_
      refine e_cgt_t rfl (nI_lt (by omega) (by omega)) ?_
      refine e_lload rfl rfl ?_
      refine e_aload rfl rfl ?_
      refine e_getIv rfl hS.1 hV.2.2.1 ?_
      refine e_i2l rfl ?_
      refine e_iload rfl rfl ?_
      refine Eg.p2 rfl (by decide) (by decide) rfl (Nat.le_of_ble_eq_true rfl) (xrcv_ofs (Or.inl rfl)) ((by rw [show ((nI (cn v 6)).toInt64 : Int64) = lN (cn v 6) from nI_l (by omega)]; exact (cs_power (a := cn v 6) (n := n) (by omega)).mono (by decide))) ?_
      refine e_iload rfl rfl ?_
      refine Eg.p3 rfl (by decide) (by decide) rfl (Nat.le_of_ble_eq_true rfl) (xrcv_ofs (Or.inl rfl)) ((cs_lowest (x := stS (cn v 5) (cn v 6 - cn v 5) n k (n + 1 - k)) (y := cn v 6 ^ n) (by omega) (by omega) hpos).mono (by decide)) ?_
      exact Eg.ret rfl (by decide) rfl ⟨congrArg (fun z => some (Value.long z)) (show (lN (if y = 0 then stS (cn v 5) (cn v 6 - cn v 5) n k (n + 1 - k) / Nat.gcd (stS (cn v 5) (cn v 6 - cn v 5) n k (n + 1 - k)) (cn v 6 ^ n) else cn v 6 ^ n / Nat.gcd (stS (cn v 5) (cn v 6 - cn v 5) n k (n + 1 - k)) (cn v 6 ^ n)) : Int64) = aStorms v (nI n) (nI k) y from by unfold aStorms; rw [if_pos (c := ¬ cn v 0 = 0 ∧ ¬ (nI n < 0 ∨ 12 < nI n) ∧ ¬ (nI k < 0 ∨ 13 < nI k) ∧ ¬ (y < 0 ∨ 1 < y)) ⟨bs, bn, bk, by_⟩, nI_clamp (by omega), nI_clamp (by omega)]), rfl⟩
  · have e0 : n + 1 - k = 0 := by omega
    have hfin : stS (cn v 5) (cn v 6 - cn v 5) n k (n + 1 - k) = 0 := by rw [e0]; rfl
    rw [show lN 0 = lN (stS (cn v 5) (cn v 6 - cn v 5) n k (n + 1 - k)) by rw [hfin]]
    refine e_iload rfl rfl ?_
    refine e_iload rfl rfl ?_
    refine e_cgt_t rfl (nI_lt (by omega) (by omega)) ?_
    refine e_lload rfl rfl ?_
    refine e_aload rfl rfl ?_
    refine e_getIv rfl hS.1 hV.2.2.1 ?_
    refine e_i2l rfl ?_
    refine e_iload rfl rfl ?_
    refine Eg.p2 rfl (by decide) (by decide) rfl (Nat.le_of_ble_eq_true rfl) (xrcv_ofs (Or.inl rfl)) ((by rw [show ((nI (cn v 6)).toInt64 : Int64) = lN (cn v 6) from nI_l (by omega)]; exact (cs_power (a := cn v 6) (n := n) (by omega)).mono (by decide))) ?_
    refine e_iload rfl rfl ?_
    refine Eg.p3 rfl (by decide) (by decide) rfl (Nat.le_of_ble_eq_true rfl) (xrcv_ofs (Or.inl rfl)) ((cs_lowest (x := stS (cn v 5) (cn v 6 - cn v 5) n k (n + 1 - k)) (y := cn v 6 ^ n) (by omega) (by omega) hpos).mono (by decide)) ?_
    exact Eg.ret rfl (by decide) rfl ⟨congrArg (fun z => some (Value.long z)) (show (lN (if y = 0 then stS (cn v 5) (cn v 6 - cn v 5) n k (n + 1 - k) / Nat.gcd (stS (cn v 5) (cn v 6 - cn v 5) n k (n + 1 - k)) (cn v 6 ^ n) else cn v 6 ^ n / Nat.gcd (stS (cn v 5) (cn v 6 - cn v 5) n k (n + 1 - k)) (cn v 6 ^ n)) : Int64) = aStorms v (nI n) (nI k) y from by unfold aStorms; rw [if_pos (c := ¬ cn v 0 = 0 ∧ ¬ (nI n < 0 ∨ 12 < nI n) ∧ ¬ (nI k < 0 ∨ 13 < nI k) ∧ ¬ (y < 0 ∨ 1 < y)) ⟨bs, bn, bk, by_⟩, nI_clamp (by omega), nI_clamp (by omega)]), rfl⟩
theorem cf_storms (hq : CQ sh I R w m s v) {n k y : Int32} : Ec X 3 168 [.ref 0, .int n, .int k, .int y] (sh, I, L, R) (fun r h' => r = some (.long (aStorms v n k y)) ∧ h' = (sh, I, L, R)) := by
  have hq0 := hq
  obtain ⟨h0, r7, hWd, rm, hM, hms, hS, hV, hU, hw, hW⟩ := hq
  have hq := hq0
  have hb := hw.1.2
  refine Ec.of (Nat.le_of_ble_eq_true rfl) ?_
  refine e_aload rfl rfl ?_
  refine e_getR rfl h0 r7 ?_
  refine e_getR rfl hWd rm ?_
  refine e_getR rfl hM.1 hms ?_
  refine e_astore rfl ?_
  refine e_aload rfl rfl ?_
  refine Eg.p1 rfl (by decide) (by decide) rfl (Nat.le_of_ble_eq_true rfl) (xrcv_of rfl hS.1 rfl) ((cs_isThereV hS hV hw).mono (by decide)) ?_
  refine e_ifeq_b rfl (fun bs => ?_) (fun bs => ?_)
  · replace bs := yn_0.mp bs
    refine e_lpush rfl ?_
    exact Eg.ret rfl (by decide) rfl ⟨congrArg (fun z => some (Value.long z)) (show ((-1) : Int64) = aStorms v n k y from by unfold aStorms; rw [if_neg (by grind)]), rfl⟩
  · replace bs := yn_n0.mp bs
    refine e_iload rfl rfl ?_
    refine e_ipush rfl ?_
    refine e_ipush rfl ?_
    refine Eg.p3 rfl (by decide) (by decide) rfl (Nat.le_of_ble_eq_true rfl) (xrcv_ofs (Or.inl rfl)) (cs_withinY.mono (by decide)) ?_
    refine e_ifeq_b rfl (fun bn => ?_) (fun bn => ?_)
    · replace bn := yn_0.mp bn
      refine e_lpush rfl ?_
      exact Eg.ret rfl (by decide) rfl ⟨congrArg (fun z => some (Value.long z)) (show ((-1) : Int64) = aStorms v n k y from by unfold aStorms; rw [if_neg (by grind)]), rfl⟩
    · replace bn := yn_n0.mp bn
      refine e_iload rfl rfl ?_
      refine e_ipush rfl ?_
      refine e_ipush rfl ?_
      refine Eg.p3 rfl (by decide) (by decide) rfl (Nat.le_of_ble_eq_true rfl) (xrcv_ofs (Or.inl rfl)) (cs_withinY.mono (by decide)) ?_
      refine e_ifeq_b rfl (fun bk => ?_) (fun bk => ?_)
      · replace bk := yn_0.mp bk
        refine e_lpush rfl ?_
        exact Eg.ret rfl (by decide) rfl ⟨congrArg (fun z => some (Value.long z)) (show ((-1) : Int64) = aStorms v n k y from by unfold aStorms; rw [if_neg (by grind)]), rfl⟩
      · replace bk := yn_n0.mp bk
        refine e_iload rfl rfl ?_
        refine e_ipush rfl ?_
        refine e_ipush rfl ?_
        refine Eg.p3 rfl (by decide) (by decide) rfl (Nat.le_of_ble_eq_true rfl) (xrcv_ofs (Or.inl rfl)) (cs_withinY.mono (by decide)) ?_
        refine e_ifne_b rfl (fun by_ => ?_) (fun by_ => ?_)
        · replace by_ := yn_n0.mp by_
          obtain ⟨n, hn, en⟩ := n12_get bn
          subst en
          obtain ⟨k, hk, ek⟩ := n13_get bk
          subst ek
          refine e_lpush rfl ?_
          refine e_lstv (w := lN 0) rfl rfl ?_
          refine e_iload rfl rfl ?_
          refine e_istore rfl ?_
          refine Eg.pk [0, 1, 2, 3, 4, 5, 7] [7, 5, 4, 0, 1, 2, 3] rfl (by decide) ?_
          exact cf_storms_loop hq hn hk bs by_ bn bk
        · replace by_ := yn_0.mp by_
          refine e_lpush rfl ?_
          exact Eg.ret rfl (by decide) rfl ⟨congrArg (fun z => some (Value.long z)) (show ((-1) : Int64) = aStorms v n k y from by unfold aStorms; rw [if_neg (by grind)]), rfl⟩
theorem nI_lti {a b : Nat} (ha : a < 2 ^ 31) (hb : b < 2 ^ 31) : nI a < nI b ↔ a < b := by
  constructor
  · intro q
    apply Decidable.byContradiction; intro hc
    exact nI_nlt (by omega) ha q
  · intro q; exact nI_lt q hb
theorem nI_lei {a b : Nat} (ha : a < 2 ^ 31) (hb : b < 2 ^ 31) : nI a ≤ nI b ↔ a ≤ b := by
  rw [← Int32.not_lt, nI_lti hb ha]; omega
theorem md_storms_loop (hM : MW sh R) (hv : mV I v) (hw : Wf v) {n k : Nat} {y : Int32} (hn : n < 13) (hk : k < 14) (bs : ¬ cn v 0 = 0) (by_ : ¬ (y < 0 ∨ 1 < y)) (bn : ¬ (nI n < 0 ∨ 12 < nI n)) (bk : ¬ (nI k < 0 ∨ 13 < nI k)) : Eg X xTc 2 300 54 [(0, .ref 290), (1, .int (nI n)), (2, .int (nI k)), (3, .int y), (4, .long (lN (stS (cn v 5) (cn v 6 - cn v 5) n k (0 - k)))), (6, .long (lN (chs n 0))), (8, .int (nI 0))] [] (sh, I, L, R) (fun r h' => r = some (.long (aStorms v (nI n) (nI k) y)) ∧ h' = (sh, I, L, R)) := by
  have hb := hw.1.2
  have hS1 : ∀ m, k + m ≤ n + 1 → stS (cn v 5) (cn v 6 - cn v 5) n k m ≤ 3392543592209772 := fun m hm => Nat.le_trans (stS_le (by omega) (by omega) hn hm) (by omega)
  have hpw : cn v 6 ^ n ≤ 282429536481 := Nat.le_trans (Nat.pow_le_pow_left (show cn v 6 ≤ 9 by omega) n) (Nat.le_trans (Nat.pow_le_pow_right (n := 9) (j := 12) (by decide) (by omega)) (by decide))
  have hpos : 0 < cn v 6 ^ n := Nat.pow_pos (by omega)
  have hfin : stS (cn v 5) (cn v 6 - cn v 5) n k (n + 1 - k) ≤ 3392543592209772 := by
    by_cases hc : k ≤ n + 1
    · exact hS1 _ (by omega)
    · rw [show n + 1 - k = 0 by omega]; exact Nat.zero_le _
  have hg : 0 < Nat.gcd (stS (cn v 5) (cn v 6 - cn v 5) n k (n + 1 - k)) (cn v 6 ^ n) := Nat.gcd_pos_of_pos_right _ hpos
  have hg2 : Nat.gcd (stS (cn v 5) (cn v 6 - cn v 5) n k (n + 1 - k)) (cn v 6 ^ n) ≤ cn v 6 ^ n := Nat.gcd_le_right _ hpos
  refine Eg.pk [0, 1, 2, 3, 4, 6, 8] [0, 1, 2, 3, 4, 6, 8] rfl (by decide) ?_
  refine up_ind (p := fun j => Eg X xTc _ 300 54 [(0, .ref 290), (1, .int (nI n)), (2, .int (nI k)), (3, .int y), (4, .long (lN (stS (cn v 5) (cn v 6 - cn v 5) n k (j - k)))), (6, .long (lN (chs n j))), (8, .int (nI j))] [] (sh, I, L, R) _) (n := n + 1) (j := 0) (fun j hj ih => ?_) ?_ (Nat.zero_le _)
  · refine e_iload rfl rfl ?_
    refine e_iload rfl rfl ?_
    refine e_cgt_f rfl (nI_nlt (by omega) (by omega)) ?_
    have hc := chs_le (n := n) (i := j) hn (by omega)
    have hm2 : chs n j * (n - j) ≤ 924 * 12 := Nat.mul_le_mul hc (by omega)
    refine e_lload rfl rfl ?_
    refine e_iload rfl rfl ?_
    refine e_iload rfl rfl ?_
    refine e_clt_b rfl (fun b65 => ?_) (fun b65 => ?_)
    · have b65 := (nI_lti (by omega) (by omega)).mp b65
      refine e_lpush rfl ?_
      refine e_ladd rfl ?_
      refine e_lstore rfl ?_
      refine e_lload rfl rfl ?_
      refine e_iload rfl rfl ?_
      refine e_iload rfl rfl ?_
      refine e_isub rfl ?_
      rw [show (nI n) - (nI j) = nI (n - j) from nI_sub (by omega)]
      refine e_i2l rfl ?_
      refine e_lmul rfl ?_
      refine e_iload rfl rfl ?_
      refine e_ipush rfl ?_
      refine e_iadd rfl ?_
      rw [show (nI j) + 1 = nI (j + 1) from nI_1 j]
      refine e_i2l rfl ?_
      refine e_ldiv rfl (by rw [nI_l (by omega)]; exact lN_ne0 (by omega) (by omega)) ?_
      refine e_lstore rfl ?_
      refine e_iinc rfl rfl ?_
      refine e_goto rfl ?_
      refine Eg.pk [0, 1, 2, 3, 4, 6, 8] [8, 6, 4, 0, 1, 2, 3] rfl (by decide) ?_
      rw [nI_l (n := n - j) (by omega), nI_l (n := j + 1) (by omega), lN_mul (chs n j) (n - j), lN_div (by omega) (by omega), nI_1]
      rw [show (lN (stS (cn v 5) (cn v 6 - cn v 5) n k (j - k)) + 0) = lN (stS (cn v 5) (cn v 6 - cn v 5) n k (j + 1 - k)) by rw [show j + 1 - k = j - k by omega]; exact Int64.add_zero _]
      exact ih
    · have b65 : ¬ j < k := fun q => b65 (nI_lt q (by omega))
      refine e_lload rfl rfl ?_
      refine e_aload rfl rfl ?_
      refine e_getR rfl hM.1 (hM.2 0 _ rfl).2 ?_
      refine e_ipush rfl ?_
      refine e_ialv (t := 5) (n := 14) rfl (hM.2 0 _ rfl).1 rfl (by decide) (by decide) (hv.n hw (j := 5) (by decide)) ?_
      refine e_i2l rfl ?_
      refine e_iload rfl rfl ?_
      refine Eg.p2 rfl (by decide) (by decide) rfl (Nat.le_of_ble_eq_true rfl) (xrcv_ofs (Or.inl rfl)) ((by rw [show ((nI (cn v 5)).toInt64 : Int64) = lN (cn v 5) from nI_l (by omega)]; exact (ms_power (a := cn v 5) (n := j) (by omega)).mono (by decide))) ?_
      refine e_lmul rfl ?_
      refine e_aload rfl rfl ?_
      refine e_getR rfl hM.1 (hM.2 0 _ rfl).2 ?_
      refine e_ipush rfl ?_
      refine e_ialv (t := 6) (n := 14) rfl (hM.2 0 _ rfl).1 rfl (by decide) (by decide) (hv.n hw (j := 6) (by decide)) ?_
      refine e_aload rfl rfl ?_
      refine e_getR rfl hM.1 (hM.2 0 _ rfl).2 ?_
      refine e_ipush rfl ?_
      refine e_ialv (t := 5) (n := 14) rfl (hM.2 0 _ rfl).1 rfl (by decide) (by decide) (hv.n hw (j := 5) (by decide)) ?_
      refine e_isub rfl ?_
      rw [show (nI (cn v 6)) - (nI (cn v 5)) = nI (cn v 6 - cn v 5) from nI_sub (by omega)]
      refine e_i2l rfl ?_
      refine e_iload rfl rfl ?_
      refine e_iload rfl rfl ?_
      refine e_isub rfl ?_
      rw [show (nI n) - (nI j) = nI (n - j) from nI_sub (by omega)]
      refine Eg.p2 rfl (by decide) (by decide) rfl (Nat.le_of_ble_eq_true rfl) (xrcv_ofs (Or.inl rfl)) ((by rw [show ((nI (cn v 6 - cn v 5)).toInt64 : Int64) = lN (cn v 6 - cn v 5) from nI_l (by omega)]; exact (ms_power (a := cn v 6 - cn v 5) (n := n - j) (by omega)).mono (by decide))) ?_
      refine e_lmul rfl ?_
      refine e_goto rfl ?_
      refine e_ladd rfl ?_
      refine e_lstore rfl ?_
      refine e_lload rfl rfl ?_
      refine e_iload rfl rfl ?_
      refine e_iload rfl rfl ?_
      refine e_isub rfl ?_
      rw [show (nI n) - (nI j) = nI (n - j) from nI_sub (by omega)]
      refine e_i2l rfl ?_
      refine e_lmul rfl ?_
      refine e_iload rfl rfl ?_
      refine e_ipush rfl ?_
      refine e_iadd rfl ?_
      rw [show (nI j) + 1 = nI (j + 1) from nI_1 j]
      refine e_i2l rfl ?_
      refine e_ldiv rfl (by rw [nI_l (by omega)]; exact lN_ne0 (by omega) (by omega)) ?_
      refine e_lstore rfl ?_
      refine e_iinc rfl rfl ?_
      refine e_goto rfl ?_
      refine Eg.pk [0, 1, 2, 3, 4, 6, 8] [8, 6, 4, 0, 1, 2, 3] rfl (by decide) ?_
      rw [nI_l (n := n - j) (by omega), nI_l (n := j + 1) (by omega), lN_mul (chs n j) (n - j), lN_div (by omega) (by omega), nI_1]
      rw [lN_mul, lN_mul, lN_add]
      rw [show stS (cn v 5) (cn v 6 - cn v 5) n k (j - k) + chs n j * cn v 5 ^ j * (cn v 6 - cn v 5) ^ (n - j) = stS (cn v 5) (cn v 6 - cn v 5) n k (j + 1 - k) by rw [show j + 1 - k = (j - k) + 1 by omega]; show _ = stS (cn v 5) (cn v 6 - cn v 5) n k (j - k) + stT _ _ n (k + (j - k)); rw [show k + (j - k) = j by omega]; rfl]
      exact ih
  · refine e_iload rfl rfl ?_
    refine e_iload rfl rfl ?_
    refine e_cgt_t rfl (nI_lt (by omega) (by omega)) ?_
    refine e_aload rfl rfl ?_
    refine e_getR rfl hM.1 (hM.2 0 _ rfl).2 ?_
    refine e_ipush rfl ?_
    refine e_ialv (t := 6) (n := 14) rfl (hM.2 0 _ rfl).1 rfl (by decide) (by decide) (hv.n hw (j := 6) (by decide)) ?_
    refine e_i2l rfl ?_
    refine e_iload rfl rfl ?_
    refine Eg.p2 rfl (by decide) (by decide) rfl (Nat.le_of_ble_eq_true rfl) (xrcv_ofs (Or.inl rfl)) ((by rw [show ((nI (cn v 6)).toInt64 : Int64) = lN (cn v 6) from nI_l (by omega)]; exact (ms_power (a := cn v 6) (n := n) (by omega)).mono (by decide))) ?_
    refine e_lstore rfl ?_
    refine e_lload rfl rfl ?_
    refine e_lload rfl rfl ?_
    refine Eg.p2 rfl (by decide) (by decide) rfl (Nat.le_of_ble_eq_true rfl) (xrcv_ofs (Or.inl rfl)) ((ms_divisor (x := stS (cn v 5) (cn v 6 - cn v 5) n k (n + 1 - k)) (y := cn v 6 ^ n) (by omega) (by omega)).mono (by decide)) ?_
    refine e_lstore rfl ?_
    refine e_iload rfl rfl ?_
    refine e_ifne_b rfl (fun b159 => ?_) (fun b159 => ?_)
    · refine e_lload rfl rfl ?_
      refine e_lload rfl rfl ?_
      refine e_ldiv rfl (lN_ne0 hg (by omega)) ?_
      exact Eg.ret rfl (by decide) rfl ⟨congrArg (fun z => some (Value.long z)) (show ((lN ((cn v 6) ^ n)) / (lN (Nat.gcd (stS (cn v 5) (cn v 6 - cn v 5) n k (n + 1 - k)) (cn v 6 ^ n))) : Int64) = aStorms v (nI n) (nI k) y from by unfold aStorms; rw [if_pos (c := ¬ cn v 0 = 0 ∧ ¬ (nI n < 0 ∨ 12 < nI n) ∧ ¬ (nI k < 0 ∨ 13 < nI k) ∧ ¬ (y < 0 ∨ 1 < y)) ⟨bs, bn, bk, by_⟩, nI_clamp (by omega), nI_clamp (by omega), lN_div (by omega) (by omega)]; exact congrArg lN (if_neg b159).symm), rfl⟩
    · refine e_lload rfl rfl ?_
      refine e_lload rfl rfl ?_
      refine e_ldiv rfl (lN_ne0 hg (by omega)) ?_
      refine e_goto rfl ?_
      exact Eg.ret rfl (by decide) rfl ⟨congrArg (fun z => some (Value.long z)) (show ((lN (stS (cn v 5) (cn v 6 - cn v 5) n k (n + 1 - k))) / (lN (Nat.gcd (stS (cn v 5) (cn v 6 - cn v 5) n k (n + 1 - k)) (cn v 6 ^ n))) : Int64) = aStorms v (nI n) (nI k) y from by unfold aStorms; rw [if_pos (c := ¬ cn v 0 = 0 ∧ ¬ (nI n < 0 ∨ 12 < nI n) ∧ ¬ (nI k < 0 ∨ 13 < nI k) ∧ ¬ (y < 0 ∨ 1 < y)) ⟨bs, bn, bk, by_⟩, nI_clamp (by omega), nI_clamp (by omega), lN_div (by omega) (by omega)]; exact congrArg lN (if_pos b159).symm), rfl⟩
theorem md_storms (hM : MW sh R) (hv : mV I v) (hw : Wf v) {n k y : Int32} : Ec X 3 300 [.ref 290, .int n, .int k, .int y] (sh, I, L, R) (fun r h' => r = some (.long (aStorms v n k y)) ∧ h' = (sh, I, L, R)) := by
  have hb := hw.1.2
  refine Ec.of (Nat.le_of_ble_eq_true rfl) ?_
  refine e_aload rfl rfl ?_
  refine Eg.p1 rfl (by decide) (by decide) rfl (Nat.le_of_ble_eq_true rfl) (xrcv_of rfl hM.1 rfl) ((ms_isSeaV hM hv hw).mono (by decide)) ?_
  refine e_ifeq_b rfl (fun bs => ?_) (fun bs => ?_)
  · replace bs := yn_0.mp bs
    refine e_lpush rfl ?_
    exact Eg.ret rfl (by decide) rfl ⟨congrArg (fun z => some (Value.long z)) (show ((-1) : Int64) = aStorms v n k y from by unfold aStorms; rw [if_neg (by grind)]), rfl⟩
  · replace bs := yn_n0.mp bs
    refine e_iload rfl rfl ?_
    refine e_i2l rfl ?_
    refine e_lpush rfl ?_
    refine e_lpush rfl ?_
    refine Eg.p3 rfl (by decide) (by decide) rfl (Nat.le_of_ble_eq_true rfl) (xrcv_ofs (Or.inl rfl)) ((ms_inv (x := n) (y := 0) (z := 12) rfl (by decide) (by decide)).mono (by decide)) ?_
    refine e_ifeq_b rfl (fun bn => ?_) (fun bn => ?_)
    · replace bn := yn_0.mp bn
      refine e_lpush rfl ?_
      exact Eg.ret rfl (by decide) rfl ⟨congrArg (fun z => some (Value.long z)) (show ((-1) : Int64) = aStorms v n k y from by unfold aStorms; rw [if_neg (by grind)]), rfl⟩
    · replace bn := yn_n0.mp bn
      refine e_iload rfl rfl ?_
      refine e_i2l rfl ?_
      refine e_lpush rfl ?_
      refine e_lpush rfl ?_
      refine Eg.p3 rfl (by decide) (by decide) rfl (Nat.le_of_ble_eq_true rfl) (xrcv_ofs (Or.inl rfl)) ((ms_inv (x := k) (y := 0) (z := 13) rfl (by decide) (by decide)).mono (by decide)) ?_
      refine e_ifeq_b rfl (fun bk => ?_) (fun bk => ?_)
      · replace bk := yn_0.mp bk
        refine e_lpush rfl ?_
        exact Eg.ret rfl (by decide) rfl ⟨congrArg (fun z => some (Value.long z)) (show ((-1) : Int64) = aStorms v n k y from by unfold aStorms; rw [if_neg (by grind)]), rfl⟩
      · replace bk := yn_n0.mp bk
        refine e_iload rfl rfl ?_
        refine e_i2l rfl ?_
        refine e_lpush rfl ?_
        refine e_lpush rfl ?_
        refine Eg.p3 rfl (by decide) (by decide) rfl (Nat.le_of_ble_eq_true rfl) (xrcv_ofs (Or.inl rfl)) ((ms_inv (x := y) (y := 0) (z := 1) rfl (by decide) (by decide)).mono (by decide)) ?_
        refine e_ifne_b rfl (fun by_ => ?_) (fun by_ => ?_)
        · replace by_ := yn_n0.mp by_
          obtain ⟨n, hn, en⟩ := n12_get bn
          subst en
          obtain ⟨k, hk, ek⟩ := n13_get bk
          subst ek
          refine e_lpush rfl ?_
          refine e_lstv (w := lN (stS (cn v 5) (cn v 6 - cn v 5) n k (0 - k))) rfl (by rw [Nat.zero_sub]; rfl) ?_
          refine e_lpush rfl ?_
          refine e_lstv (w := lN (chs n 0)) rfl rfl ?_
          refine e_ipush rfl ?_
          refine e_istv (y := nI 0) rfl rfl ?_
          refine Eg.pk [0, 1, 2, 3, 4, 6, 8] [8, 6, 4, 0, 1, 2, 3] rfl (by decide) ?_
          exact md_storms_loop hM hv hw hn hk bs by_ bn bk
        · replace by_ := yn_0.mp by_
          refine e_lpush rfl ?_
          exact Eg.ret rfl (by decide) rfl ⟨congrArg (fun z => some (Value.long z)) (show ((-1) : Int64) = aStorms v n k y from by unfold aStorms; rw [if_neg (by grind)]), rfl⟩
end QX
