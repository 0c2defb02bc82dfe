/-! fences: the one side whole -/
section FG
variable {X : xX} {h : xH} {sh : List (Nat × Nat)} {I : Nat → Nat → Int32} {L : Nat → Nat → Int64} {R : Nat → Nat → Option Nat} {B : Nat → Nat} {n ri p : Nat} {st : rS}
variable {m s w : Nat} {v : Nat → Nat → Int32}
def hasPs (v : Nat → Nat → Int32) (x : Int32) : Bool := decide (¬ x < 0 ∧ x < 256) && (List.range 8).all (fun p => !(x.toNatClampNeg.testBit p) || plc v (nI p))
theorem plc_P (hw : Wf v) {p : Nat} (hp : p < 2 ^ 31) (h : plc v (nI p) = true) : isP v p := by
  obtain ⟨q, e, hq⟩ := plc_get h hw
  have q8x := hq.lt hw
  rw [(nI_ij hp (by omega)).mp e]; exact hq
theorem hasPs_n {t : Nat} (ht : t < 2 ^ 31) : hasPs v (nI t) = true ↔ t < 256 ∧ ∀ p, p < 8 → t.testBit p = true → plc v (nI p) = true := by
  unfold hasPs
  rw [Bool.and_eq_true_iff, decide_eq_true_iff, List.all_eq_true, nI_clamp ht]
  have e := nI_lti (a := t) (b := 256) ht (by decide)
  constructor
  · rintro ⟨⟨h1x, h2x⟩, h3x⟩
    refine ⟨e.mp h2x, fun p hp hb => ?_⟩
    have := h3x p (List.mem_range.mpr hp)
    rw [hb] at this; exact this
  · rintro ⟨h1x, h2x⟩
    refine ⟨⟨nI_pos ht, e.mpr h1x⟩, fun p hp => ?_⟩
    cases q : t.testBit p
    · rfl
    · exact h2x p (List.mem_range.mp hp) q
theorem hasPs_g {x : Int32} (h : hasPs v x = true) : ∃ t, t < 256 ∧ x = nI t ∧ ∀ p, p < 8 → t.testBit p = true → plc v (nI p) = true := by
  have h0x := h
  unfold hasPs at h
  rw [Bool.and_eq_true_iff, decide_eq_true_iff] at h
  obtain ⟨t, lt, rfl⟩ := nI_of (x := x) h.1.1
  have := (hasPs_n lt).mp h0x
  exact ⟨t, this.1, rfl, this.2⟩
def whoN (v : Nat → Nat → Int32) (S a n : Nat) : Nat → Nat := itN (fun p z => if plc v (nI p) = true ∧ cntN (fun j => opF v (cn v 8 ||| S) p (nI (a + j))) n < cntN (fun j => opF v (cn v 8) p (nI (a + j))) n then z ||| 1 <<< p else z) 0
theorem who_t {S a n p : Nat} (h : plc v (nI p) = true ∧ cntN (fun j => opF v (cn v 8 ||| S) p (nI (a + j))) n < cntN (fun j => opF v (cn v 8) p (nI (a + j))) n) : whoN v S a n (p + 1) = whoN v S a n p ||| 1 <<< p := if_pos h
theorem who_f {S a n p : Nat} (h : ¬ (plc v (nI p) = true ∧ cntN (fun j => opF v (cn v 8 ||| S) p (nI (a + j))) n < cntN (fun j => opF v (cn v 8) p (nI (a + j))) n)) : whoN v S a n (p + 1) = whoN v S a n p := if_neg h
def fenA (v : Nat → Nat → Int32) (a n : Nat) (kw : Int32) : Option Nat → Int32
  | none => -2
  | some S => if kw = 0 then nI (bitN S) else if kw = 1 then nI S else nI (whoN v S a n 8)
theorem fenA_0 {a n S : Nat} {kw : Int32} (h : kw = 0) : fenA v a n kw (some S) = nI (bitN S) := if_pos h
theorem fenA_1 {a n S : Nat} {kw : Int32} (h0x : ¬ kw = 0) (h : kw = 1) : fenA v a n kw (some S) = nI S := (if_neg h0x).trans (if_pos h)
theorem fenA_2 {a n S : Nat} {kw : Int32} (h0x : ¬ kw = 0) (h : ¬ kw = 1) : fenA v a n kw (some S) = nI (whoN v S a n 8) := (if_neg h0x).trans (if_neg h)
def aFen (v : Nat → Nat → Int32) (x y z kw : Int32) : Int32 := fenA v y.toNatClampNeg (z.toNatClampNeg + 1 - y.toNatClampNeg) kw (bst v x.toNatClampNeg y.toNatClampNeg (z.toNatClampNeg + 1 - y.toNatClampNeg) (1 <<< cn v 0))
theorem aFen_n {t a b n : Nat} {kw : Int32} (ht : t < 2 ^ 31) (ha : a < 2 ^ 31) (hb : b < 2 ^ 31) (hn : a + n = b + 1) : aFen v (nI t) (nI a) (nI b) kw = fenA v a n kw (bst v t a n (1 <<< cn v 0)) := by
  unfold aFen
  rw [nI_clamp ht, nI_clamp ha, nI_clamp hb, show b + 1 - a = n by omega]
def gFen (v : Nat → Nat → Int32) (x y z kw : Int32) : Prop := ¬ cn v 0 = 0 ∧ hasPs v x ∧ ¬ (kw < 0 ∨ 2 < kw) ∧ ¬ (y < 0 ∨ 9999 < y) ∧ ¬ (z < 0 ∨ 9999 < z) ∧ ¬ z < y ∧ z - y ≤ 29
theorem day_n {x : Int32} (h : ¬ (x < 0 ∨ 9999 < x)) : ∃ a, a ≤ 9999 ∧ x = nI a := by
  obtain ⟨t, lt, e⟩ := nI_of (x := x) (fun q => h (Or.inl q))
  refine ⟨t, ?_, e⟩
  apply Decidable.byContradiction; intro q
  exact h (Or.inr (by rw [e]; exact (nI_lti (a := 9999) (by decide) lt).mpr (by omega)))
theorem nI_m2 {S : Nat} (h : S < 2 ^ 31) : ¬ nI S = -2 := fun e => by
  have := congrArg Int32.toInt e
  rw [nI_toInt (by omega), show (-2 : Int32).toInt = -2 by decide] at this; omega
theorem cs_hasPlaces (hS : SeaAt sh R s) (hV : SeaV I s v) {x : Int32} : Ec X 2 87 [.ref s, .int x] (sh, I, L, R) (fun r h' => r = some (.int (yn (hasPs v x))) ∧ h' = (sh, I, L, R)) := by
  refine Ec.of (Nat.le_of_ble_eq_true rfl) ?_
  refine e_iload rfl rfl ?_
  refine e_iflt_b rfl (fun b1x => ?_) (fun b1x => ?_)
  · refine e_ipush rfl ?_
    exact Eg.ret rfl (by decide) rfl ⟨congrArg (fun z => some (Value.int z)) (yn_f (fun q => by obtain ⟨t, q1x, q2x, _⟩ := hasPs_g q; rw [q2x] at b1x; exact absurd b1x (nI_pos (by omega)))).symm, rfl⟩
  · refine e_iload rfl rfl ?_
    refine e_ipush rfl ?_
    refine e_clt_b rfl (fun b8x => ?_) (fun b8x => ?_)
    · refine e_ipush rfl ?_
      refine e_istore rfl ?_
      refine Eg.pk [0, 1, 2] [2, 0, 1] rfl (by decide) ?_
      obtain ⟨t, lt, rfl⟩ := nI_of (x := x) b1x
      have t256x : t < 256 := (nI_lti (b := 256) lt (by decide)).mp b8x
      refine up_ind (p := fun p => (∀ q, q < p → t.testBit q = true → plc v (nI q) = true) → Eg X xTc 1 87 15 [(0, .ref s), (1, .int (nI t)), (2, .int (nI p))] [] (sh, I, L, R) (fun r h' => r = some (.int (yn (hasPs v (nI t)))) ∧ h' = (sh, I, L, R))) (n := 8) (j := 0) (fun p hj ih a1x => ?_) (fun a1x => ?_) (Nat.zero_le _) (fun q r => absurd r (by omega))
      · refine e_iload rfl rfl ?_
        refine e_ipush rfl ?_
        refine e_cge_f rfl (nI_ge (b := 8) hj (by decide)) ?_
        refine e_iload rfl rfl ?_
        refine e_iload rfl rfl ?_
        refine e_ishr rfl ?_
        refine e_ipush rfl ?_
        refine e_iand rfl ?_
        rw [show ((nI t) >>> ((nI p) &&& 31)) &&& 1 = if t.testBit p = true then 1 else 0 from nI_bit lt (by omega)]
        refine e_ifeq_b rfl (fun b26x => ?_) (fun b26x => ?_)
        · refine e_iinc rfl rfl ?_
          refine e_goto rfl ?_
          refine Eg.pk [0, 1, 2] [2, 0, 1] rfl (by decide) ?_
          rw [nI_1]
          refine ih (fun q r1x r2x => ?_)
          rcases (show q < p ∨ q = p by omega) with e | e
          · exact a1x q e r2x
          · rw [e] at r2x; exact absurd r2x (ite_0.mp b26x)
        · refine e_aload rfl rfl ?_
          refine e_iload rfl rfl ?_
          refine Eg.p2 rfl (by decide) (by decide) rfl (Nat.le_of_ble_eq_true rfl) (xrcv_of rfl hS.1 rfl) ((cs_hasPlace hS hV).mono (by decide)) ?_
          refine e_ifne_b rfl (fun b34x => ?_) (fun b34x => ?_)
          · replace b34x := yn_n0.mp b34x
            refine e_iinc rfl rfl ?_
            refine e_goto rfl ?_
            refine Eg.pk [0, 1, 2] [2, 0, 1] rfl (by decide) ?_
            rw [nI_1]
            refine ih (fun q r1x r2x => ?_)
            rcases (show q < p ∨ q = p by omega) with e | e
            · exact a1x q e r2x
            · rw [e]; exact b34x
          · replace b34x := yn_0.mp b34x
            refine e_ipush rfl ?_
            exact Eg.ret rfl (by decide) rfl ⟨congrArg (fun z => some (Value.int z)) (yn_f (fun q => b34x (((hasPs_n lt).mp q).2 p hj (ite_n0.mp b26x)))).symm, rfl⟩
      · refine e_iload rfl rfl ?_
        refine e_ipush rfl ?_
        refine e_cge_t rfl (Int32.le_refl _) ?_
        refine e_ipush rfl ?_
        exact Eg.ret rfl (by decide) rfl ⟨congrArg (fun z => some (Value.int z)) (yn_t (p := hasPs v (nI t) = true) ((hasPs_n lt).mpr ⟨t256x, a1x⟩)).symm, rfl⟩
    · refine e_ipush rfl ?_
      exact Eg.ret rfl (by decide) rfl ⟨congrArg (fun z => some (Value.int z)) (yn_f (fun q => by obtain ⟨t, q1x, q2x, _⟩ := hasPs_g q; exact b8x (by rw [q2x]; exact (nI_lti (b := 256) (by omega) (by decide)).mpr q1x))).symm, rfl⟩
theorem cs_openLess (hS : SeaAt sh R s) (hV : SeaV I s v) (hw : Wf v) (hM : MomAt sh R m) (hms : R m 0 = some s) (hW : MomV I m v) {f S a b n : Nat} (hf : sh[f]? = some (1, 4)) (hS2x : S < 4096) (hn : a + n = b + 1) (hb2x : b < 2 ^ 30) : Ec X 6 20 [.ref f, .ref m, .int (nI S), .int (nI a), .int (nI b)] (sh, I, L, R) (fun r h' => r = some (.int (nI (whoN v S a n 8))) ∧ h' = (sh, I, L, R)) := by
  have h8x := hw.1.2.2.2.2.2.2.2.2.2.1
  have hA : cn v 8 ||| S < 4096 := Nat.or_lt_two_pow (n := 12) h8x hS2x
  refine Ec.of (Nat.le_of_ble_eq_true rfl) ?_
  refine e_ipush rfl ?_
  refine e_istore rfl ?_
  refine e_ipush rfl ?_
  refine e_istore rfl ?_
  refine Eg.pk [0, 1, 2, 3, 4, 5, 6] [6, 5, 0, 1, 2, 3, 4] rfl (by decide) ?_
  refine up_ind (p := fun p => Eg X xTc 5 20 6 [(0, .ref f), (1, .ref m), (2, .int (nI S)), (3, .int (nI a)), (4, .int (nI b)), (5, .int (nI (whoN v S a n p))), (6, .int (nI p))] [] (sh, I, L, R) (fun r h' => r = some (.int (nI (whoN v S a n 8))) ∧ h' = (sh, I, L, R))) (n := 8) (j := 0) (fun p hj ih => ?_) ?_ (Nat.zero_le _)
  · have k1x : (cntN (fun j => opF v (cn v 8) p (nI (a + j))) n) ≤ n := cntN_le
    have k2x : (cntN (fun j => opF v (cn v 8 ||| S) p (nI (a + j))) n) ≤ n := cntN_le
    refine e_iload rfl rfl ?_
    refine e_ipush rfl ?_
    refine e_cge_f rfl (nI_ge (b := 8) hj (by decide)) ?_
    refine e_aload rfl rfl ?_
    refine e_getR rfl hM.1 hms ?_
    refine e_iload rfl rfl ?_
    refine Eg.p2 rfl (by decide) (by decide) rfl (Nat.le_of_ble_eq_true rfl) (xrcv_of rfl hS.1 rfl) ((cs_hasPlace hS hV).mono (by decide)) ?_
    refine e_ifne_b rfl (fun b22x => ?_) (fun b22x => ?_)
    · replace b22x := yn_n0.mp b22x
      have hp : isP v p := plc_P hw (by omega) b22x
      refine e_aload rfl rfl ?_
      refine e_aload rfl rfl ?_
      refine e_getR rfl hM.1 hms ?_
      refine e_aload rfl rfl ?_
      refine e_getIv rfl hM.1 hW.2.1 ?_
      refine e_iload rfl rfl ?_
      refine e_iload rfl rfl ?_
      refine e_iload rfl rfl ?_
      refine Eg.p6 rfl (by decide) (by decide) rfl (Nat.le_of_ble_eq_true rfl) (xrcv_of rfl hf rfl) ((cs_openDays (f := f) hS hV hw (F := cn v 8) (p := p) (a := a) (b := b) (n := n) hp (by omega) hn hb2x).mono (by decide)) ?_
      refine e_istore rfl ?_
      refine e_aload rfl rfl ?_
      refine e_aload rfl rfl ?_
      refine e_getR rfl hM.1 hms ?_
      refine e_aload rfl rfl ?_
      refine e_getIv rfl hM.1 hW.2.1 ?_
      refine e_iload rfl rfl ?_
      refine e_ior rfl ?_
      rw [show (nI (cn v 8)) ||| (nI S) = nI (cn v 8 ||| S) from nI_or _ _]
      refine e_iload rfl rfl ?_
      refine e_iload rfl rfl ?_
      refine e_iload rfl rfl ?_
      refine Eg.p6 rfl (by decide) (by decide) rfl (Nat.le_of_ble_eq_true rfl) (xrcv_of rfl hf rfl) ((cs_openDays (f := f) hS hV hw (F := cn v 8 ||| S) (p := p) (a := a) (b := b) (n := n) hp (by omega) hn hb2x).mono (by decide)) ?_
      refine e_iload rfl rfl ?_
      refine e_cge_b rfl (fun b68x => ?_) (fun b68x => ?_)
      · refine e_iinc rfl rfl ?_
        refine e_goto rfl ?_
        refine Eg.pk [0, 1, 2, 3, 4, 5, 6] [6, 7, 0, 1, 2, 3, 4, 5] rfl (by decide) ?_
        rw [nI_1]
        rw [who_f (fun q => absurd ((nI_lei (by omega) (by omega)).mp b68x) (by omega))] at ih
        exact ih
      · refine e_iload rfl rfl ?_
        refine e_ipush rfl ?_
        refine e_iload rfl rfl ?_
        refine e_ishl rfl ?_
        refine e_ior rfl ?_
        rw [show (nI (whoN v S a n p)) ||| (1 <<< ((nI p) &&& 31)) = nI (whoN v S a n p ||| 1 <<< p) from nI_setb (by omega)]
        refine e_istore rfl ?_
        refine e_iinc rfl rfl ?_
        refine e_goto rfl ?_
        refine Eg.pk [0, 1, 2, 3, 4, 5, 6] [6, 5, 7, 0, 1, 2, 3, 4] rfl (by decide) ?_
        rw [nI_1]
        rw [who_t ⟨b22x, Decidable.byContradiction (fun q => b68x ((nI_lei (by omega) (by omega)).mpr (by omega)))⟩] at ih
        exact ih
    · replace b22x := yn_0.mp b22x
      refine e_goto rfl ?_
      refine e_iinc rfl rfl ?_
      refine e_goto rfl ?_
      refine Eg.pk [0, 1, 2, 3, 4, 5, 6] [6, 0, 1, 2, 3, 4, 5] rfl (by decide) ?_
      rw [nI_1]
      rw [who_f (fun q => b22x q.1)] at ih
      exact ih
  · refine e_iload rfl rfl ?_
    refine e_ipush rfl ?_
    refine e_cge_t rfl (Int32.le_refl _) ?_
    refine e_iload rfl rfl ?_
    exact Eg.ret rfl (by decide) rfl ⟨rfl, rfl⟩
theorem cf_fences (hq : CQ sh I R w m s v) {f : Nat} (r11x : R 0 11 = some f) (hf : sh[f]? = some (1, 4)) {x y z kw : Int32} : Ec X 7 158 [.ref 0, .int x, .int y, .int z, .int kw] (sh, I, L, R) (fun r h' => (gFen v x y z kw ∧ r = some (.int (aFen v x y z kw)) ∧ h' = (sh, I, L, R)) ∨ (¬ gFen v x y z kw ∧ r = some (.int (-1)) ∧ h' = (sh, I, L, R))) := by
  obtain ⟨h0x, r7x, hWd, rm, hM, hms, hS, hV, hU, hw, hW⟩ := hq
  refine Ec.of (Nat.le_of_ble_eq_true rfl) ?_
  refine e_aload rfl rfl ?_
  refine e_getR rfl h0x r7x ?_
  refine e_getR rfl hWd rm ?_
  refine e_astore rfl ?_
  refine e_aload rfl rfl ?_
  refine e_getR rfl hM.1 hms ?_
  refine Eg.p1 rfl (by decide) (by decide) rfl (Nat.le_of_ble_eq_true rfl) (xrcv_of rfl hS.1 rfl) ((cs_isThereV hS hV hw).mono (by decide)) ?_
  refine e_ifeq_b rfl (fun b17x => ?_) (fun b17x => ?_)
  · replace b17x := yn_0.mp b17x
    refine e_ipush rfl ?_
    exact Eg.ret rfl (by decide) rfl (Or.inr ⟨fun q => b17x (q.1), rfl, rfl⟩)
  · replace b17x := yn_n0.mp b17x
    refine e_aload rfl rfl ?_
    refine e_getR rfl hM.1 hms ?_
    refine e_iload rfl rfl ?_
    refine Eg.p2 rfl (by decide) (by decide) rfl (Nat.le_of_ble_eq_true rfl) (xrcv_of rfl hS.1 rfl) ((cs_hasPlaces hS hV).mono (by decide)) ?_
    refine e_ifeq_b rfl (fun b29x => ?_) (fun b29x => ?_)
    · replace b29x := yn_0.mp b29x
      refine e_ipush rfl ?_
      exact Eg.ret rfl (by decide) rfl (Or.inr ⟨fun q => b29x (q.2.1), rfl, rfl⟩)
    · replace b29x := yn_n0.mp b29x
      refine e_iload rfl rfl ?_
      refine e_ipush rfl ?_
      refine e_ipush rfl ?_
      refine Eg.p3 rfl (by decide) (by decide) rfl (Nat.le_of_ble_eq_true rfl) (xrcv_ofs (Or.inl rfl)) (cs_withinY.mono (by decide)) ?_
      refine e_ifne_b rfl (fun b39x => ?_) (fun b39x => ?_)
      · replace b39x := yn_n0.mp b39x
        refine e_iload rfl rfl ?_
        refine Eg.p1 rfl (by decide) (by decide) rfl (Nat.le_of_ble_eq_true rfl) (xrcv_ofs (Or.inl rfl)) (cs_isDayY.mono (by decide)) ?_
        refine e_ifeq_b rfl (fun b48x => ?_) (fun b48x => ?_)
        · replace b48x := yn_0.mp b48x
          refine e_ipush rfl ?_
          exact Eg.ret rfl (by decide) rfl (Or.inr ⟨fun q => b48x (q.2.2.2.1), rfl, rfl⟩)
        · replace b48x := yn_n0.mp b48x
          refine e_iload rfl rfl ?_
          refine Eg.p1 rfl (by decide) (by decide) rfl (Nat.le_of_ble_eq_true rfl) (xrcv_ofs (Or.inl rfl)) (cs_isDayY.mono (by decide)) ?_
          refine e_ifeq_b rfl (fun b55x => ?_) (fun b55x => ?_)
          · replace b55x := yn_0.mp b55x
            refine e_ipush rfl ?_
            exact Eg.ret rfl (by decide) rfl (Or.inr ⟨fun q => b55x (q.2.2.2.2.1), rfl, rfl⟩)
          · replace b55x := yn_n0.mp b55x
            refine e_iload rfl rfl ?_
            refine e_iload rfl rfl ?_
            refine e_clt_b rfl (fun b60x => ?_) (fun b60x => ?_)
            · refine e_ipush rfl ?_
              exact Eg.ret rfl (by decide) rfl (Or.inr ⟨fun q => q.2.2.2.2.2.1 b60x, rfl, rfl⟩)
            · refine e_iload rfl rfl ?_
              refine e_iload rfl rfl ?_
              refine e_isub rfl ?_
              refine e_ipush rfl ?_
              refine e_cle_b rfl (fun b68x => ?_) (fun b68x => ?_)
              · refine Eg.pk [0, 1, 2, 3, 4, 5] [5, 0, 1, 2, 3, 4] rfl (by decide) ?_
                have gg : gFen v x y z kw := ⟨b17x, b29x, b39x, b48x, b55x, b60x, b68x⟩
                have hk := kw_3 b39x
                obtain ⟨t, t256x, rfl, tp⟩ := hasPs_g b29x
                obtain ⟨a, ha, rfl⟩ := day_n b48x
                obtain ⟨b, hb, rfl⟩ := day_n b55x
                have hab : a ≤ b := Decidable.byContradiction (fun q => b60x ((nI_lti (by omega) (by omega)).mpr (by omega)))
                obtain ⟨n, hn⟩ : ∃ n, a + n = b + 1 := ⟨b + 1 - a, by omega⟩
                rw [aFen_n (by omega) (by omega) (by omega) hn]
                have tP : ∀ p, p < 8 → t.testBit p = true → isP v p := fun p q r => plc_P hw (by omega) (tp p q r)
                refine e_aload rfl rfl ?_
                refine e_getR rfl h0x r11x ?_
                refine e_aload rfl rfl ?_
                refine e_iload rfl rfl ?_
                refine e_iload rfl rfl ?_
                refine e_iload rfl rfl ?_
                refine Eg.p5 rfl (by decide) (by decide) rfl (Nat.le_of_ble_eq_true rfl) (xrcv_of rfl hf rfl) ((cs_fewestFences hS hV hw hM hms hW (f := f) t256x tP hn (by omega) (by omega)).mono (by decide)) ?_
                rcases e : bst v t a n (1 <<< cn v 0) with _ | S
                · skip
                  refine e_istore rfl ?_
                  refine e_iload rfl rfl ?_
                  refine e_ipush rfl ?_
                  refine e_cne_f rfl rfl ?_
                  refine e_ipush rfl ?_
                  exact Eg.ret rfl (by decide) rfl (Or.inl ⟨gg, rfl, rfl⟩)
                · rw [show oI (some S) = nI S from rfl]
                  have S4x : S < 4096 := Nat.lt_of_lt_of_le (bst_lt e) (two_le hw.1.2.1)
                  refine e_istore rfl ?_
                  refine e_iload rfl rfl ?_
                  refine e_ipush rfl ?_
                  refine e_cne_t rfl (nI_m2 (by omega)) ?_
                  refine e_iload rfl rfl ?_
                  rcases hk with rfl | rfl | rfl
                  · refine e_lswn (m := 124) rfl (by decide) ?_
                    refine e_iload rfl rfl ?_
                    refine Eg.p1 rfl (by decide) (by decide) rfl (Nat.le_of_ble_eq_true rfl) (xrcv_ofs (Or.inl rfl)) ((cs_bitCountN (S := S) S4x).mono (by decide)) ?_
                    exact Eg.ret rfl (by decide) rfl (Or.inl ⟨gg, congrArg (fun q => some (Value.int q)) (Eq.symm (fenA_0 rfl)), rfl⟩)
                  · refine e_lswn (m := 130) rfl (by decide) ?_
                    refine e_iload rfl rfl ?_
                    exact Eg.ret rfl (by decide) rfl (Or.inl ⟨gg, congrArg (fun q => some (Value.int q)) (Eq.symm (fenA_1 (by decide) rfl)), rfl⟩)
                  · refine e_lswn (m := 133) rfl (by decide) ?_
                    refine e_aload rfl rfl ?_
                    refine e_getR rfl h0x r11x ?_
                    refine e_aload rfl rfl ?_
                    refine e_iload rfl rfl ?_
                    refine e_iload rfl rfl ?_
                    refine e_iload rfl rfl ?_
                    refine Eg.p5 rfl (by decide) (by decide) rfl (Nat.le_of_ble_eq_true rfl) (xrcv_of rfl hf rfl) ((cs_openLess hS hV hw hM hms hW hf S4x hn (by omega)).mono (by decide)) ?_
                    exact Eg.ret rfl (by decide) rfl (Or.inl ⟨gg, congrArg (fun q => some (Value.int q)) (Eq.symm (fenA_2 (by decide) (by decide))), rfl⟩)
              · refine e_ipush rfl ?_
                exact Eg.ret rfl (by decide) rfl (Or.inr ⟨fun q => b68x (q.2.2.2.2.2.2), rfl, rfl⟩)
      · replace b39x := yn_0.mp b39x
        refine e_ipush rfl ?_
        exact Eg.ret rfl (by decide) rfl (Or.inr ⟨fun q => b39x (q.2.2.1), rfl, rfl⟩)
end FG
