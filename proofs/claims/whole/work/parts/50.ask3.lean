/-! share, crest, rent, storms -/
section QW
variable {X : xX} {h : xH} {sh : List (Nat × Nat)} {I : Nat → Nat → Int32} {L : Nat → Nat → Int64} {R : Nat → Nat → Option Nat} {v : Nat → Nat → Int32} {w s m : Nat}
/-- how many of the first n numbers -/
def cntN (q : Nat → Bool) : Nat → Nat := itN (fun j z => if q j then z + 1 else z) 0
theorem cntN_le {q : Nat → Bool} {n : Nat} : cntN q n ≤ n := by
  induction n with
  | zero => exact Nat.le_refl _
  | succ n ih =>
    show (if q n then cntN q n + 1 else cntN q n) ≤ n + 1
    split <;> omega
theorem cntN_t {q : Nat → Bool} {n : Nat} (h : q n = true) : cntN q (n + 1) = cntN q n + 1 := if_pos h
theorem cntN_f {q : Nat → Bool} {n : Nat} (h : q n = false) : cntN q (n + 1) = cntN q n := if_neg (by rw [h]; decide)
theorem nI_div {a b : Nat} (ha : a < 2 ^ 31) (hb : b < 2 ^ 31) : nI a / nI b = nI (a / b) := by
  apply Int32.toInt_inj.mp
  have h1 : a / b ≤ a := Nat.div_le_self a b
  rw [Int32.toInt_div, nI_toInt ha, nI_toInt hb, nI_toInt (by omega), Int.tdiv_eq_ediv_of_nonneg (by omega)]
  rw [Int.bmod_eq_of_le]
  · rfl
  · have : (0 : Int) ≤ (a : Int) / (b : Int) := Int.ediv_nonneg (by omega) (by omega)
    omega
  · have : (a : Int) / (b : Int) = ((a / b : Nat) : Int) := rfl
    omega
theorem nI_sub {a b : Nat} (h : b ≤ a) : nI a - nI b = nI (a - b) := by
  obtain ⟨c, rfl⟩ : ∃ c, a = b + c := ⟨a - b, by omega⟩
  rw [← nI_add, Nat.add_sub_cancel_left]; grind
theorem cs_openDays {f : Nat} (hS : SeaAt sh R s) (hV : SeaV I s v) (hw : Wf v) {F p a b n : Nat} (hp : isP v p) (hF : F < 4096) (hn : a + n = b + 1) (hb2 : b < 2 ^ 30) : Ec X 5 14 [.ref f, .ref s, .int (nI F), .int (nI p), .int (nI a), .int (nI b)] (sh, I, L, R) (fun r h' => r = some (.int (nI (cntN (fun j => opF v F p (nI (a + j))) n))) ∧ h' = (sh, I, L, R)) := by
  have hb := hw.1.2
  refine Ec.of (Nat.le_of_ble_eq_true rfl) ?_
  refine e_ipush rfl ?_
  refine e_istore rfl ?_
  refine e_iload rfl rfl ?_
  refine e_istore rfl ?_
  refine Eg.pk [0, 1, 2, 3, 4, 5, 6, 7] [7, 6, 0, 1, 2, 3, 4, 5] rfl (by decide) ?_
  refine up_ind (p := fun j => Eg X xTc _ 14 7 [(0, .ref f), (1, .ref s), (2, .int (nI F)), (3, .int (nI p)), (4, .int (nI a)), (5, .int (nI b)), (6, .int (nI (cntN (fun j => opF v F p (nI (a + j))) j))), (7, .int (nI (a + j)))] [] (sh, I, L, R) _) (n := n) (j := 0) (fun j hj ih => ?_) ?_ (Nat.zero_le _)
  · refine e_iload rfl rfl ?_
    refine e_iload rfl rfl ?_
    refine e_cgt_f rfl (nI_nlt (by omega) (by omega)) ?_
    refine e_aload rfl rfl ?_
    refine e_iload rfl rfl ?_
    refine e_iload rfl rfl ?_
    refine e_iload rfl rfl ?_
    refine Eg.p4 rfl (by decide) (by decide) rfl (Nat.le_of_ble_eq_true rfl) (xrcv_of rfl hS.1 rfl) ((cs_isOpenBy hS hV hw (F := F) (p := p) (by omega) (by assumption)).mono (by decide)) ?_
    refine e_ifeq_b rfl (fun b22 => ?_) (fun b22 => ?_)
    · replace b22 := yn_0.mp b22
      refine e_iinc rfl rfl ?_
      refine e_goto rfl ?_
      refine Eg.pk [0, 1, 2, 3, 4, 5, 6, 7] [7, 0, 1, 2, 3, 4, 5, 6] rfl (by decide) ?_
      rw [nI_1, ← cntN_f (q := (fun j => opF v F p (nI (a + j)))) (decide_eq_false b22)]
      exact ih
    · replace b22 := yn_n0.mp b22
      refine e_iinc rfl rfl ?_
      refine e_iinc rfl rfl ?_
      refine e_goto rfl ?_
      refine Eg.pk [0, 1, 2, 3, 4, 5, 6, 7] [7, 6, 0, 1, 2, 3, 4, 5] rfl (by decide) ?_
      rw [nI_1, nI_1, ← cntN_t (q := (fun j => opF v F p (nI (a + j)))) (decide_eq_true b22)]
      exact ih
  · refine e_iload rfl rfl ?_
    refine e_iload rfl rfl ?_
    refine e_cgt_t rfl (nI_lt (by omega) (by omega)) ?_
    refine e_iload rfl rfl ?_
    exact Eg.ret rfl (by decide) rfl ⟨rfl, rfl⟩
def shN (v : Nat → Nat → Int32) (p : Nat) : Nat := cntN (fun j => opF v (cn v 8) p (nI j)) (rndN v)
def aShare (v : Nat → Nat → Int32) (x y : Int32) : Int32 := if plc v x = true ∧ ¬ (y < 0 ∨ 1 < y) then nI (if y = 0 then shN v x.toNatClampNeg / Nat.gcd (shN v x.toNatClampNeg) (rndN v) else rndN v / Nat.gcd (shN v x.toNatClampNeg) (rndN v)) else -1
theorem shN_eq {p : Nat} : cntN (fun j => opF v (cn v 8) p (nI (0 + j))) (rndN v) = shN v p := by
  unfold shN; simp only [Nat.zero_add]
theorem cf_share (hq : CQ sh I R w m s v) {f : Nat} (r11 : R 0 11 = some f) (hf : sh[f]? = some (1, 4)) {x y : Int32} : Ec X 6 155 [.ref 0, .int x, .int y] (sh, I, L, R) (fun r h' => r = some (.int (aShare v x y)) ∧ h' = (sh, I, L, R)) := by
  obtain ⟨h0, r7, hWd, rm, hM, hms, hS, hV, hU, hw, hW⟩ := hq
  have hb := hw.1.2
  refine Ec.of (Nat.le_of_ble_eq_true rfl) ?_
  refine e_aload rfl rfl ?_
  refine e_getR rfl h0 r7 ?_
  refine e_getR rfl hWd rm ?_
  refine e_getR rfl hM.1 hms ?_
  refine e_astore rfl ?_
  refine e_aload rfl rfl ?_
  refine e_iload rfl rfl ?_
  refine Eg.p2 rfl (by decide) (by decide) rfl (Nat.le_of_ble_eq_true rfl) (xrcv_of rfl hS.1 rfl) ((cs_hasPlace hS hV).mono (by decide)) ?_
  refine e_ifeq_b rfl (fun b1 => ?_) (fun b1 => ?_)
  · replace b1 := yn_0.mp b1
    refine e_ipush rfl ?_
    exact Eg.ret rfl (by decide) rfl ⟨congrArg (fun z => some (Value.int z)) (show ((-1) : Int32) = aShare v x y from by unfold aShare; rw [if_neg (by grind)]), rfl⟩
  · replace b1 := yn_n0.mp b1
    refine e_iload rfl rfl ?_
    refine e_ipush rfl ?_
    refine e_ipush rfl ?_
    refine Eg.p3 rfl (by decide) (by decide) rfl (Nat.le_of_ble_eq_true rfl) (xrcv_ofs (Or.inl rfl)) (cs_withinY.mono (by decide)) ?_
    refine e_ifne_b rfl (fun b2 => ?_) (fun b2 => ?_)
    · replace b2 := yn_n0.mp b2
      obtain ⟨t, et, hp⟩ := plc_get b1 hw
      subst et
      have hp8 := hp.lt hw
      have hpc := (hp.v hw).2.1
      have hr := rnd_le hw
      have hs : shN v t ≤ rndN v := cntN_le
      refine e_aload rfl rfl ?_
      refine e_getR rfl h0 r11 ?_
      refine e_aload rfl rfl ?_
      refine e_aload rfl rfl ?_
      refine e_getR rfl h0 r7 ?_
      refine e_getR rfl hWd rm ?_
      refine e_getIv rfl hM.1 hW.2.1 ?_
      refine e_iload rfl rfl ?_
      refine e_ipush rfl ?_
      refine e_aload rfl rfl ?_
      refine e_getIv rfl hS.1 hU.1 ?_
      refine e_ipush rfl ?_
      refine e_isub rfl ?_
      rw [show (nI (rndN v)) - 1 = nI (rndN v - 1) from (show nI (rndN v) - nI 1 = _ from nI_sub (by omega))]
      refine Eg.p6 rfl (by decide) (by decide) rfl (Nat.le_of_ble_eq_true rfl) (xrcv_of rfl hf rfl) ((cs_openDays hS hV hw (F := cn v 8) (p := t) (a := 0) (b := rndN v - 1) (n := (rndN v)) (by assumption) (by omega) (by omega) (by omega)).mono (by decide)) ?_
      rw [shN_eq]
      refine e_istore rfl ?_
      refine e_iload rfl rfl ?_
      refine e_i2l rfl ?_
      refine e_aload rfl rfl ?_
      refine e_getIv rfl hS.1 hU.1 ?_
      refine e_i2l rfl ?_
      refine e_iload rfl rfl ?_
      refine Eg.p3 rfl (by decide) (by decide) rfl (Nat.le_of_ble_eq_true rfl) (xrcv_ofs (Or.inl rfl)) ((by rw [nI_l (by omega), nI_l (by omega)]; exact (cs_lowest (x := shN v t) (y := rndN v) (by omega) (by omega) (by omega)).mono (by decide))) ?_
      refine e_l2i rfl ?_
      exact Eg.ret rfl (by decide) rfl ⟨congrArg (fun z => some (Value.int z)) (show ((lN (if y = 0 then shN v t / Nat.gcd (shN v t) (rndN v) else rndN v / Nat.gcd (shN v t) (rndN v))).toInt32 : Int32) = aShare v (nI t) y from by unfold aShare; rw [if_pos (c := plc v (nI t) = true ∧ ¬ (y < 0 ∨ 1 < y)) ⟨b1, b2⟩, nI_clamp (by omega), lN_i]), rfl⟩
    · replace b2 := yn_0.mp b2
      refine e_ipush rfl ?_
      exact Eg.ret rfl (by decide) rfl ⟨congrArg (fun z => some (Value.int z)) (show ((-1) : Int32) = aShare v x y from by unfold aShare; rw [if_neg (by grind)]), rfl⟩
theorem md_share (hM : MW sh R) (hv : mV I v) (hw : Wf v) {x y : Int32} : Ec X 6 269 [.ref 290, .int x, .int y] (sh, I, L, R) (fun r h' => r = some (.int (aShare v x y)) ∧ h' = (sh, I, L, R)) := by
  have hb := hw.1.2
  refine Ec.of (Nat.le_of_ble_eq_true rfl) ?_
  refine e_aload rfl rfl ?_
  refine e_iload rfl rfl ?_
  refine Eg.p2 rfl (by decide) (by decide) rfl (Nat.le_of_ble_eq_true rfl) (xrcv_of rfl hM.1 rfl) ((ms_isPlace hM hv hw).mono (by decide)) ?_
  refine e_ifeq_b rfl (fun b1 => ?_) (fun b1 => ?_)
  · replace b1 := yn_0.mp b1
    refine e_ipush rfl ?_
    exact Eg.ret rfl (by decide) rfl ⟨congrArg (fun z => some (Value.int z)) (show ((-1) : Int32) = aShare v x y from by unfold aShare; rw [if_neg (by grind)]), rfl⟩
  · replace b1 := yn_n0.mp b1
    refine e_iload rfl rfl ?_
    refine e_i2l rfl ?_
    refine e_lpush rfl ?_
    refine e_lpush rfl ?_
    refine Eg.p3 rfl (by decide) (by decide) rfl (Nat.le_of_ble_eq_true rfl) (xrcv_ofs (Or.inl rfl)) ((ms_inv (x := y) (y := 0) (z := 1) rfl (by decide) (by decide)).mono (by decide)) ?_
    refine e_ifne_b rfl (fun b2 => ?_) (fun b2 => ?_)
    · replace b2 := yn_n0.mp b2
      obtain ⟨t, et, hp⟩ := plc_get b1 hw
      subst et
      have hp8 := hp.lt hw
      have hpc := (hp.v hw).2.1
      have hr := rnd_le hw
      have hs : shN v t ≤ rndN v := cntN_le
      have hs2 : cntN (fun j => opF v (cn v 8) t (nI j)) (rndN v) ≤ rndN v := hs
      have hg : 0 < Nat.gcd (shN v t) (rndN v) := Nat.gcd_pos_of_pos_right _ (by omega)
      have hg2 : Nat.gcd (shN v t) (rndN v) ≤ rndN v := Nat.gcd_le_right _ (by omega)
      refine e_aload rfl rfl ?_
      refine Eg.p1 rfl (by decide) (by decide) rfl (Nat.le_of_ble_eq_true rfl) (xrcv_of rfl hM.1 rfl) ((ms_roundOf hM hv hw).mono (by decide)) ?_
      refine e_istore rfl ?_
      refine e_ipush rfl ?_
      refine e_istore rfl ?_
      refine e_ipush rfl ?_
      refine e_istore rfl ?_
      refine Eg.pk [0, 1, 2, 3, 4, 5] [5, 4, 3, 0, 1, 2] rfl (by decide) ?_
      refine up_ind (p := fun j => Eg X xTc _ 269 31 [(0, .ref 290), (1, .int (nI t)), (2, .int y), (3, .int (nI (rndN v))), (4, .int (nI (cntN (fun j => opF v (cn v 8) t (nI j)) j))), (5, .int (nI j))] [] (sh, I, L, R) _) (n := rndN v) (j := 0) (fun j hj ih => ?_) ?_ (Nat.zero_le _)
      · refine e_iload rfl rfl ?_
        refine e_iload rfl rfl ?_
        refine e_cge_f rfl (nI_ge hj (by omega)) ?_
        refine e_iload rfl rfl ?_
        refine e_aload rfl rfl ?_
        refine e_iload rfl rfl ?_
        refine e_iload rfl rfl ?_
        refine e_ipush rfl ?_
        refine e_ipush rfl ?_
        refine Eg.p5 rfl (by decide) (by decide) rfl (Nat.le_of_ble_eq_true rfl) (xrcv_of rfl hM.1 rfl) ((ms_isOpen0 hM hv hw (p := t) (M := 0) (by assumption) (by omega)).mono (by decide)) ?_
        refine e_ifeq_b rfl (fun b48 => ?_) (fun b48 => ?_)
        · replace b48 := yn_0.mp b48
          refine e_ipush rfl ?_
          refine e_iadd rfl ?_
          refine e_istore rfl ?_
          refine e_iinc rfl rfl ?_
          refine e_goto rfl ?_
          refine Eg.pk [0, 1, 2, 3, 4, 5] [5, 4, 0, 1, 2, 3] rfl (by decide) ?_
          rw [Int32.add_zero, nI_1, ← cntN_f (q := (fun j => opF v (cn v 8) t (nI j))) (decide_eq_false (by rw [← Nat.or_zero (cn v 8)]; exact b48))]
          exact ih
        · replace b48 := yn_n0.mp b48
          refine e_ipush rfl ?_
          refine e_goto rfl ?_
          refine e_iadd rfl ?_
          refine e_istore rfl ?_
          refine e_iinc rfl rfl ?_
          refine e_goto rfl ?_
          refine Eg.pk [0, 1, 2, 3, 4, 5] [5, 4, 0, 1, 2, 3] rfl (by decide) ?_
          rw [nI_1, nI_1, ← cntN_t (q := (fun j => opF v (cn v 8) t (nI j))) (decide_eq_true (by rw [← Nat.or_zero (cn v 8)]; exact b48))]
          exact ih
      · refine e_iload rfl rfl ?_
        refine e_iload rfl rfl ?_
        refine e_cge_t rfl (Int32.le_refl _) ?_
        rw [show cntN (fun j => opF v (cn v 8) t (nI j)) (rndN v) = shN v t from rfl]
        refine e_iload rfl rfl ?_
        refine e_i2l rfl ?_
        refine e_iload rfl rfl ?_
        refine e_i2l rfl ?_
        refine Eg.p2 rfl (by decide) (by decide) rfl (Nat.le_of_ble_eq_true rfl) (xrcv_ofs (Or.inl rfl)) ((by rw [nI_l (by omega), nI_l (by omega)]; exact (ms_divisor (x := shN v t) (y := rndN v) (by omega) (by omega)).mono (by decide))) ?_
        refine e_l2i rfl ?_
        refine e_istv (y := nI (Nat.gcd (shN v t) (rndN v))) rfl (lN_i _) ?_
        refine e_iload rfl rfl ?_
        refine e_ifne_b rfl (fun b77 => ?_) (fun b77 => ?_)
        · refine e_iload rfl rfl ?_
          refine e_iload rfl rfl ?_
          refine e_idiv rfl (nI_ne0 hg (by omega)) ?_
          rw [show (nI (rndN v)) / (nI (Nat.gcd (shN v t) (rndN v))) = nI (rndN v / Nat.gcd (shN v t) (rndN v)) from nI_div (by omega) (by omega)]
          exact Eg.ret rfl (by decide) rfl ⟨congrArg (fun z => some (Value.int z)) (show (nI (rndN v / Nat.gcd (shN v t) (rndN v)) : Int32) = aShare v (nI t) y from by unfold aShare; rw [if_pos ⟨b1, b2⟩, nI_clamp (by omega), if_neg b77]), rfl⟩
        · refine e_iload rfl rfl ?_
          refine e_iload rfl rfl ?_
          refine e_idiv rfl (nI_ne0 hg (by omega)) ?_
          rw [show (nI (shN v t)) / (nI (Nat.gcd (shN v t) (rndN v))) = nI (shN v t / Nat.gcd (shN v t) (rndN v)) from nI_div (by omega) (by omega)]
          refine e_goto rfl ?_
          exact Eg.ret rfl (by decide) rfl ⟨congrArg (fun z => some (Value.int z)) (show (nI (shN v t / Nat.gcd (shN v t) (rndN v)) : Int32) = aShare v (nI t) y from by unfold aShare; rw [if_pos ⟨b1, b2⟩, nI_clamp (by omega), if_pos b77]), rfl⟩
    · replace b2 := yn_0.mp b2
      refine e_ipush rfl ?_
      exact Eg.ret rfl (by decide) rfl ⟨congrArg (fun z => some (Value.int z)) (show ((-1) : Int32) = aShare v x y from by unfold aShare; rw [if_neg (by grind)]), rfl⟩
def crB (v : Nat → Nat → Int32) (c : Nat) (d : Int32) : Bool := decide (∀ t, t < cn v 1 → wvv v t (nI c) d = grF v t)
theorem crB_iff {c : Nat} {d : Int32} : crB v c d = true ↔ ∀ t, t < cn v 1 → wvv v t (nI c) d = grF v t := decide_eq_true_iff
def crA (v : Nat → Nat → Int32) (c : Nat) (d : Int32) (n : Nat) : Bool := decide (∀ t, t < n → wvv v t (nI c) d = grF v t)
theorem crA_iff {c n : Nat} {d : Int32} : crA v c d n = true ↔ ∀ t, t < n → wvv v t (nI c) d = grF v t := decide_eq_true_iff
def aCrest (v : Nat → Nat → Int32) (x d : Int32) : Int32 := if ¬ (x < 0 ∨ nI (cn v 0) ≤ x) ∧ ¬ (d < 0 ∨ 9999 < d) then fst (crB v x.toNatClampNeg) d (if cn v 1 = 0 then 0 else rndN v) else -1
theorem cs_isCrest (hS : SeaAt sh R s) (hV : SeaV I s v) (hU : SeaW I s v) (hw : Wf v) {c : Nat} {d : Int32} : Ec X 3 16 [.ref s, .int (nI c), .int d] (sh, I, L, R) (fun r h' => r = some (.int (yn (crB v c d = true))) ∧ h' = (sh, I, L, R)) := by
  have hb := hw.1.2
  refine Ec.of (Nat.le_of_ble_eq_true rfl) ?_
  refine e_ipush rfl ?_
  refine e_istore rfl ?_
  refine Eg.pk [0, 1, 2, 3] [3, 0, 1, 2] rfl (by decide) ?_
  refine up_ind (p := fun j => (∀ i, i < j → wvv v i (nI c) d = grF v i) → Eg X xTc _ 16 2 [(0, .ref s), (1, .int (nI c)), (2, .int d), (3, .int (nI j))] [] (sh, I, L, R) _) (n := cn v 1) (j := 0) (fun j hj ih => ?_) ?_ (Nat.zero_le _) (fun i hi => absurd hi (by omega))
  · intro hno
    refine e_iload rfl rfl ?_
    refine e_aload rfl rfl ?_
    refine e_getIv rfl hS.1 (hV.1 1 (by decide)) ?_
    refine e_cge_f rfl (nI_ge hj (by omega)) ?_
    refine e_aload rfl rfl ?_
    refine e_iload rfl rfl ?_
    refine e_iload rfl rfl ?_
    refine e_iload rfl rfl ?_
    refine Eg.p4 rfl (by decide) (by decide) rfl (Nat.le_of_ble_eq_true rfl) (xrcv_of rfl hS.1 rfl) ((cs_wave hS hV hw (t := j) (by omega)).mono (by decide)) ?_
    refine e_aload rfl rfl ?_
    refine e_getR rfl hS.1 (hS.2 3 _ rfl).2 ?_
    refine e_iload rfl rfl ?_
    refine e_ialv (t := j) (n := 3) rfl (hS.2 3 _ rfl).1 rfl (by omega) (by decide) (hU.2 j (by omega)) ?_
    refine e_ceq_b rfl (fun b23 => ?_) (fun b23 => ?_)
    · refine e_iinc rfl rfl ?_
      refine e_goto rfl ?_
      refine Eg.pk [0, 1, 2, 3] [3, 0, 1, 2] rfl (by decide) ?_
      rw [nI_1]
      exact ih (lt_snoc hno b23)
    · refine e_ipush rfl ?_
      exact Eg.ret rfl (by decide) rfl ⟨congrArg (fun z => some (Value.int z)) (yn_f (fun q => b23 (crB_iff.mp q j hj))).symm, rfl⟩
  · intro hno
    refine e_iload rfl rfl ?_
    refine e_aload rfl rfl ?_
    refine e_getIv rfl hS.1 (hV.1 1 (by decide)) ?_
    refine e_cge_t rfl (Int32.le_refl _) ?_
    refine e_ipush rfl ?_
    exact Eg.ret rfl (by decide) rfl ⟨congrArg (fun z => some (Value.int z)) (yn_t (crB_iff.mpr hno)).symm, rfl⟩
theorem cs_firstCrest {f : Nat} (hS : SeaAt sh R s) (hV : SeaV I s v) (hU : SeaW I s v) (hw : Wf v) {c : Nat} {d : Int32} : Ec X 4 15 [.ref f, .ref s, .int (nI c), .int d] (sh, I, L, R) (fun r h' => r = some (.int (fst (crB v c) d (if cn v 1 = 0 then 0 else rndN v))) ∧ h' = (sh, I, L, R)) := by
  have hb := hw.1.2
  have hr := rnd_le hw
  refine Ec.of (Nat.le_of_ble_eq_true rfl) ?_
  refine e_aload rfl rfl ?_
  refine e_getIv rfl hS.1 (hV.1 1 (by decide)) ?_
  refine e_ifne_b rfl (fun b4 => ?_) (fun b4 => ?_)
  · have b4 : ¬ cn v 1 = 0 := fun q => b4 (by rw [q]; rfl)
    refine e_ipush rfl ?_
    refine e_istore rfl ?_
    refine Eg.pk [0, 1, 2, 3, 4] [4, 0, 1, 2, 3] rfl (by decide) ?_
    refine up_ind (p := fun j => (∀ i, i < j → crB v c (d + nI i) = false) → Eg X xTc _ 15 13 [(0, .ref f), (1, .ref s), (2, .int (nI c)), (3, .int d), (4, .int (nI j))] [] (sh, I, L, R) _) (n := rndN v) (j := 0) (fun j hj ih => ?_) ?_ (Nat.zero_le _) (fun i hi => absurd hi (by omega))
    · intro hno
      refine e_iload rfl rfl ?_
      refine e_aload rfl rfl ?_
      refine e_getIv rfl hS.1 hU.1 ?_
      refine e_cge_f rfl (nI_ge hj (by omega)) ?_
      refine e_aload rfl rfl ?_
      refine e_iload rfl rfl ?_
      refine e_iload rfl rfl ?_
      refine e_iload rfl rfl ?_
      refine e_iadd rfl ?_
      refine Eg.p3 rfl (by decide) (by decide) rfl (Nat.le_of_ble_eq_true rfl) (xrcv_ofs (Or.inl rfl)) ((cs_isCrest hS hV hU hw (c := c)).mono (by decide)) ?_
      refine e_ifeq_b rfl (fun b31 => ?_) (fun b31 => ?_)
      · replace b31 := yn_0.mp b31
        refine e_iinc rfl rfl ?_
        refine e_goto rfl ?_
        refine Eg.pk [0, 1, 2, 3, 4] [4, 0, 1, 2, 3] rfl (by decide) ?_
        rw [nI_1]
        exact ih (lt_snoc hno (Bool.eq_false_iff.mpr b31))
      · replace b31 := yn_n0.mp b31
        refine e_iload rfl rfl ?_
        refine e_iload rfl rfl ?_
        refine e_iadd rfl ?_
        exact Eg.ret rfl (by decide) rfl ⟨congrArg (fun z => some (Value.int z)) (by rw [if_neg b4]; exact (fst_at hj hno b31).symm), rfl⟩
    · intro hno
      refine e_iload rfl rfl ?_
      refine e_aload rfl rfl ?_
      refine e_getIv rfl hS.1 hU.1 ?_
      refine e_cge_t rfl (Int32.le_refl _) ?_
      refine e_ipush rfl ?_
      exact Eg.ret rfl (by decide) rfl ⟨congrArg (fun z => some (Value.int z)) (by rw [if_neg b4]; exact (fst_no hno).symm), rfl⟩
  · have b4 : cn v 1 = 0 := (nI_le0 (by omega)).mp (by rw [b4]; exact Int32.le_refl _)
    refine e_ipush rfl ?_
    exact Eg.ret rfl (by decide) rfl ⟨congrArg (fun z => some (Value.int z)) (by rw [if_pos b4]; rfl), rfl⟩
theorem cf_crest (hq : CQ sh I R w m s v) {f : Nat} (r11 : R 0 11 = some f) (hf : sh[f]? = some (1, 4)) {x d : Int32} : Ec X 5 156 [.ref 0, .int x, .int d] (sh, I, L, R) (fun r h' => r = some (.int (aCrest v x d)) ∧ h' = (sh, I, L, R)) := by
  obtain ⟨h0, r7, hWd, rm, hM, hms, hS, hV, hU, hw, hW⟩ := hq
  have hb := hw.1.2
  refine Ec.of (Nat.le_of_ble_eq_true rfl) ?_
  refine e_aload rfl rfl ?_
  refine e_getR rfl h0 r7 ?_
  refine e_getR rfl hWd rm ?_
  refine e_getR rfl hM.1 hms ?_
  refine e_iload rfl rfl ?_
  refine Eg.p2 rfl (by decide) (by decide) rfl (Nat.le_of_ble_eq_true rfl) (xrcv_of rfl hS.1 rfl) ((cs_hasCellV hS hV).mono (by decide)) ?_
  refine e_ifeq_b rfl (fun b14 => ?_) (fun b14 => ?_)
  · replace b14 := yn_0.mp b14
    refine e_ipush rfl ?_
    exact Eg.ret rfl (by decide) rfl ⟨congrArg (fun z => some (Value.int z)) (show ((-1) : Int32) = aCrest v x d from by unfold aCrest; rw [if_neg (by grind)]), rfl⟩
  · replace b14 := yn_n0.mp b14
    refine e_iload rfl rfl ?_
    refine Eg.p1 rfl (by decide) (by decide) rfl (Nat.le_of_ble_eq_true rfl) (xrcv_ofs (Or.inl rfl)) (cs_isDayY.mono (by decide)) ?_
    refine e_ifne_b rfl (fun b21 => ?_) (fun b21 => ?_)
    · replace b21 := yn_n0.mp b21
      obtain ⟨t, ht, et⟩ := nI_get b14 (by omega)
      subst et
      refine e_aload rfl rfl ?_
      refine e_getR rfl h0 r11 ?_
      refine e_aload rfl rfl ?_
      refine e_getR rfl h0 r7 ?_
      refine e_getR rfl hWd rm ?_
      refine e_getR rfl hM.1 hms ?_
      refine e_iload rfl rfl ?_
      refine e_iload rfl rfl ?_
      refine Eg.p4 rfl (by decide) (by decide) rfl (Nat.le_of_ble_eq_true rfl) (xrcv_of rfl hf rfl) ((cs_firstCrest hS hV hU hw (c := t)).mono (by decide)) ?_
      exact Eg.ret rfl (by decide) rfl ⟨congrArg (fun z => some (Value.int z)) (show (fst (crB v t) d (if cn v 1 = 0 then 0 else rndN v) : Int32) = aCrest v (nI t) d from by unfold aCrest; rw [if_pos (c := ¬ (nI t < 0 ∨ nI (cn v 0) ≤ nI t) ∧ ¬ (d < 0 ∨ 9999 < d)) ⟨b14, b21⟩, nI_clamp (by omega)]), rfl⟩
    · replace b21 := yn_0.mp b21
      refine e_ipush rfl ?_
      exact Eg.ret rfl (by decide) rfl ⟨congrArg (fun z => some (Value.int z)) (show ((-1) : Int32) = aCrest v x d from by unfold aCrest; rw [if_neg (by grind)]), rfl⟩
theorem ms_isCrest (hM : MW sh R) (hv : mV I v) (hw : Wf v) {c : Nat} {d : Int32} : Ec X 3 270 [.ref 290, .int (nI c), .int d] (sh, I, L, R) (fun r h' => r = some (.int (yn (crB v c d = true))) ∧ h' = (sh, I, L, R)) := by
  have hb := hw.1.2
  refine Ec.of (Nat.le_of_ble_eq_true rfl) ?_
  refine e_ipush rfl ?_
  refine e_istv (y := yn (crA v c d 0 = true)) rfl (yn_t (crA_iff.mpr (fun i hi => absurd hi (by omega)))).symm ?_
  refine e_ipush rfl ?_
  refine e_istore rfl ?_
  refine Eg.pk [0, 1, 2, 3, 4] [4, 3, 0, 1, 2] rfl (by decide) ?_
  refine up_ind (p := fun j => Eg X xTc _ 270 5 [(0, .ref 290), (1, .int (nI c)), (2, .int d), (3, .int (yn (crA v c d j = true))), (4, .int (nI j))] [] (sh, I, L, R) _) (n := cn v 1) (j := 0) (fun j hj ih => ?_) ?_ (Nat.zero_le _)
  · refine e_iload rfl rfl ?_
    refine e_aload rfl rfl ?_
    refine e_getR rfl hM.1 (hM.2 0 _ rfl).2 ?_
    refine e_ipush rfl ?_
    refine e_ialv (t := 1) (n := 14) rfl (hM.2 0 _ rfl).1 rfl (by decide) (by decide) (hv.n hw (j := 1) (by decide)) ?_
    refine e_cge_f rfl (nI_ge hj (by omega)) ?_
    refine e_iload rfl rfl ?_
    refine e_ifeq_b rfl (fun b17 => ?_) (fun b17 => ?_)
    · replace b17 := yn_0.mp b17
      refine e_ipush rfl ?_
      refine e_istore rfl ?_
      refine e_iinc rfl rfl ?_
      refine e_goto rfl ?_
      refine Eg.pk [0, 1, 2, 3, 4] [4, 3, 0, 1, 2] rfl (by decide) ?_
      rw [nI_1, show (0 : Int32) = yn (crA v c d (j + 1) = true) from (yn_f (fun q => b17 (crA_iff.mpr (fun i hi => crA_iff.mp q i (by omega))))).symm]
      exact ih
    · replace b17 := yn_n0.mp b17
      refine e_aload rfl rfl ?_
      refine e_iload rfl rfl ?_
      refine e_iload rfl rfl ?_
      refine e_iload rfl rfl ?_
      refine e_aload rfl rfl ?_
      refine e_getR rfl hM.1 (hM.2 2 _ rfl).2 ?_
      refine e_iload rfl rfl ?_
      refine e_ialv (t := j) (n := 3) rfl (hM.2 2 _ rfl).1 rfl (by omega) (by decide) (hv 3 j (by decide)) ?_
      refine e_aload rfl rfl ?_
      refine e_getR rfl hM.1 (hM.2 3 _ rfl).2 ?_
      refine e_iload rfl rfl ?_
      refine e_ialv (t := j) (n := 3) rfl (hM.2 3 _ rfl).1 rfl (by omega) (by decide) (hv 4 j (by decide)) ?_
      refine Eg.p6 rfl (by decide) (by decide) rfl (Nat.le_of_ble_eq_true rfl) (xrcv_of rfl hM.1 rfl) ((ms_trainV hM hv hw (t := j) (by omega)).mono (by decide)) ?_
      refine e_aload rfl rfl ?_
      refine e_iload rfl rfl ?_
      refine Eg.p2 rfl (by decide) (by decide) rfl (Nat.le_of_ble_eq_true rfl) (xrcv_of rfl hM.1 rfl) ((ms_greatestOf hM hv hw (t := j) (by omega)).mono (by decide)) ?_
      refine e_cne_b rfl (fun b48 => ?_) (fun b48 => ?_)
      · refine e_ipush rfl ?_
        refine e_istore rfl ?_
        refine e_iinc rfl rfl ?_
        refine e_goto rfl ?_
        refine Eg.pk [0, 1, 2, 3, 4] [4, 3, 0, 1, 2] rfl (by decide) ?_
        rw [nI_1, show (0 : Int32) = yn (crA v c d (j + 1) = true) from (yn_f (fun q => b48 (crA_iff.mp q j (by omega)))).symm]
        exact ih
      · refine e_ipush rfl ?_
        refine e_goto rfl ?_
        refine e_istore rfl ?_
        refine e_iinc rfl rfl ?_
        refine e_goto rfl ?_
        refine Eg.pk [0, 1, 2, 3, 4] [4, 3, 0, 1, 2] rfl (by decide) ?_
        rw [nI_1, show (1 : Int32) = yn (crA v c d (j + 1) = true) from (yn_t (crA_iff.mpr (lt_snoc (crA_iff.mp b17) b48))).symm]
        exact ih
  · refine e_iload rfl rfl ?_
    refine e_aload rfl rfl ?_
    refine e_getR rfl hM.1 (hM.2 0 _ rfl).2 ?_
    refine e_ipush rfl ?_
    refine e_ialv (t := 1) (n := 14) rfl (hM.2 0 _ rfl).1 rfl (by decide) (by decide) (hv.n hw (j := 1) (by decide)) ?_
    refine e_cge_t rfl (Int32.le_refl _) ?_
    refine e_iload rfl rfl ?_
    exact Eg.retZ rfl yn_01 ⟨congrArg (fun z => some (Value.int z)) (show (yn (crA v c d (cn v 1) = true) : Int32) = yn (crB v c d = true) from by rfl), rfl⟩
theorem md_crest_loop (hM : MW sh R) (hv : mV I v) (hw : Wf v) {c e n : Nat} {x : Int32} (hn : n ≤ 8000) (he : e ≤ 9999) (ex : x = nI c) (hc : c < 12) : Eg X xTc 4 271 38 [(0, .ref 290), (1, .int x), (2, .int (nI e)), (3, .int (nI n)), (4, .int (nI e + nI 0))] [] (sh, I, L, R) (fun r h' => r = some (.int (fst (crB v c) (nI e) n)) ∧ h' = (sh, I, L, R)) := by
  subst ex
  have hb := hw.1.2
  refine Eg.pk [0, 1, 2, 3, 4] [0, 1, 2, 3, 4] rfl (by decide) ?_
  refine up_ind (p := fun j => (∀ i, i < j → crB v c (nI e + nI i) = false) → Eg X xTc _ 271 38 [(0, .ref 290), (1, .int (nI c)), (2, .int (nI e)), (3, .int (nI n)), (4, .int (nI e + nI j))] [] (sh, I, L, R) _) (n := n) (j := 0) (fun j hj ih => ?_) ?_ (Nat.zero_le _) (fun i hi => absurd hi (by omega))
  · intro hno
    refine e_iload rfl rfl ?_
    refine e_iload rfl rfl ?_
    refine e_iload rfl rfl ?_
    refine e_iadd rfl ?_
    refine e_cge_f rfl (by rw [nI_add, nI_add]; exact nI_ge (by omega) (by omega)) ?_
    refine e_aload rfl rfl ?_
    refine e_iload rfl rfl ?_
    refine e_iload rfl rfl ?_
    refine Eg.p3 rfl (by decide) (by decide) rfl (Nat.le_of_ble_eq_true rfl) (xrcv_of rfl hM.1 rfl) ((ms_isCrest hM hv hw (c := c)).mono (by decide)) ?_
    refine e_ifeq_b rfl (fun b53 => ?_) (fun b53 => ?_)
    · replace b53 := yn_0.mp b53
      refine e_iinc rfl rfl ?_
      refine e_goto rfl ?_
      refine Eg.pk [0, 1, 2, 3, 4] [4, 0, 1, 2, 3] rfl (by decide) ?_
      rw [Int32.add_assoc, nI_1]
      exact ih (lt_snoc hno (Bool.eq_false_iff.mpr b53))
    · replace b53 := yn_n0.mp b53
      refine e_iload rfl rfl ?_
      exact Eg.ret rfl (by decide) rfl ⟨congrArg (fun z => some (Value.int z)) (fst_at hj hno b53).symm, rfl⟩
  · intro hno
    refine e_iload rfl rfl ?_
    refine e_iload rfl rfl ?_
    refine e_iload rfl rfl ?_
    refine e_iadd rfl ?_
    refine e_cge_t rfl (Int32.le_refl _) ?_
    refine e_ipush rfl ?_
    exact Eg.ret rfl (by decide) rfl ⟨congrArg (fun z => some (Value.int z)) (fst_no hno).symm, rfl⟩
theorem md_crest (hM : MW sh R) (hv : mV I v) (hw : Wf v) {x d : Int32} : Ec X 5 271 [.ref 290, .int x, .int d] (sh, I, L, R) (fun r h' => r = some (.int (aCrest v x d)) ∧ h' = (sh, I, L, R)) := by
  have hb := hw.1.2
  have hr := rnd_le hw
  refine Ec.of (Nat.le_of_ble_eq_true rfl) ?_
  refine e_aload rfl rfl ?_
  refine e_iload rfl rfl ?_
  refine Eg.p2 rfl (by decide) (by decide) rfl (Nat.le_of_ble_eq_true rfl) (xrcv_of rfl hM.1 rfl) ((ms_isCell hM hv hw).mono (by decide)) ?_
  refine e_ifeq_b rfl (fun b5 => ?_) (fun b5 => ?_)
  · replace b5 := yn_0.mp b5
    refine e_ipush rfl ?_
    exact Eg.ret rfl (by decide) rfl ⟨congrArg (fun z => some (Value.int z)) (show ((-1) : Int32) = aCrest v x d from by unfold aCrest; rw [if_neg (by grind)]), rfl⟩
  · replace b5 := yn_n0.mp b5
    refine e_iload rfl rfl ?_
    refine Eg.p1 rfl (by decide) (by decide) rfl (Nat.le_of_ble_eq_true rfl) (xrcv_ofs (Or.inl rfl)) (ms_isDay.mono (by decide)) ?_
    refine e_ifne_b rfl (fun b12 => ?_) (fun b12 => ?_)
    · replace b12 := yn_n0.mp b12
      obtain ⟨t, ht, et⟩ := nI_get b5 (by omega)
      subst et
      obtain ⟨e, he, ed⟩ := day_get b12
      subst ed
      refine e_aload rfl rfl ?_
      refine e_getR rfl hM.1 (hM.2 0 _ rfl).2 ?_
      refine e_ipush rfl ?_
      refine e_ialv (t := 1) (n := 14) rfl (hM.2 0 _ rfl).1 rfl (by decide) (by decide) (hv.n hw (j := 1) (by decide)) ?_
      refine e_ifne_b rfl (fun b23 => ?_) (fun b23 => ?_)
      · have b23 : ¬ cn v 1 = 0 := fun q => b23 (by rw [q]; rfl)
        refine e_aload rfl rfl ?_
        refine Eg.p1 rfl (by decide) (by decide) rfl (Nat.le_of_ble_eq_true rfl) (xrcv_of rfl hM.1 rfl) ((ms_roundOf hM hv hw).mono (by decide)) ?_
        refine e_istore rfl ?_
        refine e_iload rfl rfl ?_
        refine e_istv (y := nI e + nI 0) rfl (Int32.add_zero _).symm ?_
        refine Eg.pk [0, 1, 2, 3, 4] [4, 3, 0, 1, 2] rfl (by decide) ?_
        refine (md_crest_loop hM hv hw (c := t) (n := rndN v) (by omega) he rfl (by omega)).imp (fun r h' q => ⟨q.1.trans ?_, q.2⟩)
        unfold aCrest; rw [if_pos ⟨b5, b12⟩, nI_clamp (by omega), if_neg b23]
      · have b23 : cn v 1 = 0 := (nI_le0 (by omega)).mp (by rw [b23]; exact Int32.le_refl _)
        refine e_ipush rfl ?_
        refine e_goto rfl ?_
        refine e_istore rfl ?_
        refine e_iload rfl rfl ?_
        refine e_istv (y := nI e + nI 0) rfl (Int32.add_zero _).symm ?_
        refine Eg.pk [0, 1, 2, 3, 4] [4, 3, 0, 1, 2] rfl (by decide) ?_
        refine (md_crest_loop hM hv hw (c := t) (n := 0) (by omega) he rfl (by omega)).imp (fun r h' q => ⟨q.1.trans ?_, q.2⟩)
        unfold aCrest; rw [if_pos ⟨b5, b12⟩, nI_clamp (by omega), if_pos b23]
    · replace b12 := yn_0.mp b12
      refine e_ipush rfl ?_
      exact Eg.ret rfl (by decide) rfl ⟨congrArg (fun z => some (Value.int z)) (show ((-1) : Int32) = aCrest v x d from by unfold aCrest; rw [if_neg (by grind)]), rfl⟩
end QW
