/-! fences: the other side -/
section FM
variable {X : xX} {h : xH} {sh : List (Nat × Nat)} {I : Nat → Nat → Int32} {L : Nat → Nat → Int64} {R : Nat → Nat → Option Nat} {B : Nat → Nat} {n ri p : Nat} {st : rS}
variable {v : Nat → Nat → Int32}
theorem rgA {n i : Nat} {p : Nat → Bool} (h : (List.range n).all p = true) (hi : i < n) : p i = true := List.all_eq_true.mp h i (List.mem_range.mpr hi)
def plA (W T : Nat) : Nat := (1 <<< W - 1) ||| ((1 <<< T - 1) <<< 4)
theorem plA_bit {W T p : Nat} (hW : W ≤ 4) (hT : T ≤ 4) (hp : p < 8) : (plA W T).testBit p = true ↔ p < 4 ∧ p < W ∨ 4 ≤ p ∧ p - 4 < T := by
  have h : (List.range 5).all (fun W => (List.range 5).all (fun T => (List.range 8).all (fun p => decide ((plA W T).testBit p = true ↔ p < 4 ∧ p < W ∨ 4 ≤ p ∧ p - 4 < T)))) = true := by decide +kernel
  exact of_decide_eq_true (rgA (rgA (rgA h (i := W) (by omega)) (i := T) (by omega)) hp)
theorem plA_lt {W T : Nat} (hW : W ≤ 4) (hT : T ≤ 4) : plA W T < 256 := by
  have h : ∀ W, W < 5 → ∀ T, T < 5 → plA W T < 256 := by decide +kernel
  exact h W (by omega) T (by omega)
theorem bit_8 {m c : Nat} (hm : m < 256) (h : m.testBit c = true) : c < 8 := by
  apply Decidable.byContradiction; intro q
  have : m < 2 ^ c := Nat.lt_of_lt_of_le (show m < 2 ^ 8 from hm) (Nat.pow_le_pow_right (by decide) (by omega))
  rw [Nat.testBit_lt_two_pow this] at h; exact absurd h (by decide)
theorem plA_ok (hw : Wf v) {t : Nat} (ht : t < 2 ^ 31) : t &&& plA (cn v 2) (cn v 3) = t ↔ hasPs v (nI t) = true := by
  have h2x := hw.1.2.2.2.1
  have h3x := hw.1.2.2.2.2.1
  have hl := plA_lt h2x h3x
  rw [hasPs_n ht, Nat.and_comm, and_all]
  constructor
  · intro h
    have t2x : t < 256 := by
      have : plA (cn v 2) (cn v 3) &&& t = t := and_all.mpr h
      have := Nat.and_le_left (n := plA (cn v 2) (cn v 3)) (m := t)
      omega
    exact ⟨t2x, fun p hp hb => plc_of ((plA_bit h2x h3x hp).mp (h p hb)) hw⟩
  · rintro ⟨t2x, h⟩ p hb
    have hp := bit_8 t2x hb
    exact (plA_bit h2x h3x hp).mpr (plc_P hw (by omega) (h p hp hb))
theorem ms_placesAll (hM : MW sh R) (hv : mV I v) (hw : Wf v) : Ec X 1 280 [.ref 290] (sh, I, L, R) (fun r h' => r = some (.int (nI (plA (cn v 2) (cn v 3)))) ∧ h' = (sh, I, L, R)) := by
  have h2x := hw.1.2.2.2.1
  have h3x := hw.1.2.2.2.2.1
  have p1x : ∀ c, 1 ≤ 1 <<< c := fun c => by rw [Nat.one_shiftLeft]; exact Nat.one_le_two_pow
  refine Ec.of (Nat.le_of_ble_eq_true rfl) ?_
  refine e_ipush rfl ?_
  refine e_aload rfl rfl ?_
  refine e_getR rfl hM.1 (show R 290 1 = some 291 from (hM.2 0 _ rfl).2) ?_
  refine e_ipush rfl ?_
  refine e_ialv (t := 2) (n := 14) rfl (show sh[291]? = some (20, 14) from (hM.2 0 _ rfl).1) rfl (by decide) (by decide) (hv.n hw (j := 2) (by decide)) ?_
  refine e_ishl rfl ?_
  rw [show 1 <<< ((nI (cn v 2)) &&& 31) = nI (1 <<< cn v 2) from nI_shl (F := 1) (by omega)]
  refine e_ipush rfl ?_
  refine e_isub rfl ?_
  rw [show (nI (1 <<< cn v 2)) - (1 : Int32) = nI (1 <<< cn v 2 - 1) from nI_sub (b := 1) (p1x _)]
  refine e_ipush rfl ?_
  refine e_aload rfl rfl ?_
  refine e_getR rfl hM.1 (show R 290 1 = some 291 from (hM.2 0 _ rfl).2) ?_
  refine e_ipush rfl ?_
  refine e_ialv (t := 3) (n := 14) rfl (show sh[291]? = some (20, 14) from (hM.2 0 _ rfl).1) rfl (by decide) (by decide) (hv.n hw (j := 3) (by decide)) ?_
  refine e_ishl rfl ?_
  rw [show 1 <<< ((nI (cn v 3)) &&& 31) = nI (1 <<< cn v 3) from nI_shl (F := 1) (by omega)]
  refine e_ipush rfl ?_
  refine e_isub rfl ?_
  rw [show (nI (1 <<< cn v 3)) - (1 : Int32) = nI (1 <<< cn v 3 - 1) from nI_sub (b := 1) (p1x _)]
  refine e_ipush rfl ?_
  refine e_ishl rfl ?_
  rw [show (nI (1 <<< cn v 3 - 1)) <<< (4 &&& 31) = nI ((1 <<< cn v 3 - 1) <<< 4) from nI_shl (c := 4) (by decide)]
  refine e_ior rfl ?_
  rw [show (nI (1 <<< cn v 2 - 1)) ||| (nI ((1 <<< cn v 3 - 1) <<< 4)) = nI (plA (cn v 2) (cn v 3)) from nI_or _ _]
  exact Eg.ret rfl (by decide) rfl ⟨rfl, rfl⟩
theorem ms_openDays (hM : MW sh R) (hv : mV I v) (hw : Wf v) {S p a b n : Nat} (hp : isP v p) (hS : S < 4096) (hn : a + n = b + 1) (hb2x : b < 2 ^ 30) : Ec X 5 282 [.ref 290, .int (nI p), .int (nI a), .int (nI b), .int (nI S)] (sh, I, L, R) (fun r h' => r = some (.int (nI (cntN (fun j => opF v (cn v 8 ||| S) p (nI (a + j))) n))) ∧ h' = (sh, I, L, R)) := by
  refine Ec.of (Nat.le_of_ble_eq_true rfl) ?_
  refine e_ipush rfl ?_
  refine e_istore rfl ?_
  refine e_iload rfl rfl ?_
  refine e_istore rfl ?_
  refine Eg.pk [0, 1, 2, 3, 4, 5, 6] [6, 5, 0, 1, 2, 3, 4] rfl (by decide) ?_
  refine up_ind (p := fun j => Eg X xTc 4 282 6 [(0, .ref 290), (1, .int (nI p)), (2, .int (nI a)), (3, .int (nI b)), (4, .int (nI S)), (5, .int (nI (cntN (fun j => opF v (cn v 8 ||| S) p (nI (a + j))) j))), (6, .int (nI (a + j)))] [] (sh, I, L, R) (fun r h' => r = some (.int (nI (cntN (fun j => opF v (cn v 8 ||| S) p (nI (a + j))) n))) ∧ h' = (sh, I, L, R))) (n := n) (j := 0) (fun j hj ih => ?_) ?_ (Nat.zero_le _)
  · refine e_iload rfl rfl ?_
    refine e_iload rfl rfl ?_
    refine e_cgt_f rfl (fun q => absurd ((nI_lti (by omega) (by omega)).mp q) (by omega)) ?_
    refine e_iload rfl rfl ?_
    refine e_aload rfl rfl ?_
    refine e_iload rfl rfl ?_
    refine e_iload rfl rfl ?_
    refine e_iload rfl rfl ?_
    refine e_ipush rfl ?_
    refine Eg.p5 rfl (by decide) (by decide) rfl (Nat.le_of_ble_eq_true rfl) (xrcv_of rfl hM.1 rfl) ((ms_isOpen0 hM hv hw hp hS).mono (by decide)) ?_
    refine e_ifeq_b rfl (fun b24x => ?_) (fun b24x => ?_)
    · replace b24x := yn_0.mp b24x
      refine e_ipush rfl ?_
      refine e_iadd rfl ?_
      refine e_istore rfl ?_
      refine e_iinc rfl rfl ?_
      refine e_goto rfl ?_
      refine Eg.pk [0, 1, 2, 3, 4, 5, 6] [6, 5, 0, 1, 2, 3, 4] rfl (by decide) ?_
      rw [Int32.add_zero, nI_1]
      rw [cntN_f (q := (fun j => opF v (cn v 8 ||| S) p (nI (a + j)))) (decide_eq_false b24x)] at ih
      exact ih
    · replace b24x := yn_n0.mp b24x
      refine e_ipush rfl ?_
      refine e_goto rfl ?_
      refine e_iadd rfl ?_
      refine e_istore rfl ?_
      refine e_iinc rfl rfl ?_
      refine e_goto rfl ?_
      refine Eg.pk [0, 1, 2, 3, 4, 5, 6] [6, 5, 0, 1, 2, 3, 4] rfl (by decide) ?_
      rw [nI_1, nI_1]
      rw [cntN_t (q := (fun j => opF v (cn v 8 ||| S) p (nI (a + j)))) (decide_eq_true b24x)] at ih
      exact ih
  · refine e_iload rfl rfl ?_
    refine e_iload rfl rfl ?_
    refine e_cgt_t rfl ((nI_lti (by omega) (by omega)).mpr (by omega)) ?_
    refine e_iload rfl rfl ?_
    exact Eg.ret rfl (by decide) rfl ⟨rfl, rfl⟩
theorem ms_whose (hM : MW sh R) (hv : mV I v) (hw : Wf v) {S a b n : Nat} (hS : S < 4096) (hn : a + n = b + 1) (hb2x : b < 2 ^ 30) : Ec X 6 283 [.ref 290, .int (nI a), .int (nI b), .int (nI S)] (sh, I, L, R) (fun r h' => r = some (.int (nI (whoN v S a n 8))) ∧ h' = (sh, I, L, R)) := by
  refine Ec.of (Nat.le_of_ble_eq_true rfl) ?_
  refine e_ipush rfl ?_
  refine e_istore rfl ?_
  refine e_ipush rfl ?_
  refine e_istore rfl ?_
  refine Eg.pk [0, 1, 2, 3, 4, 5] [5, 4, 0, 1, 2, 3] rfl (by decide) ?_
  refine up_ind (p := fun p => Eg X xTc 5 283 6 [(0, .ref 290), (1, .int (nI a)), (2, .int (nI b)), (3, .int (nI S)), (4, .int (nI (whoN v S a n p))), (5, .int (nI p))] [] (sh, I, L, R) (fun r h' => r = some (.int (nI (whoN v S a n 8))) ∧ h' = (sh, I, L, R))) (n := 8) (j := 0) (fun p hj ih => ?_) ?_ (Nat.zero_le _)
  · have k1x : (cntN (fun j => opF v (cn v 8 ||| 0) p (nI (a + j))) n) ≤ n := cntN_le
    have k2x : (cntN (fun j => opF v (cn v 8 ||| S) p (nI (a + j))) n) ≤ n := cntN_le
    refine e_iload rfl rfl ?_
    refine e_ipush rfl ?_
    refine e_cge_f rfl (nI_ge (b := 8) hj (by decide)) ?_
    refine e_aload rfl rfl ?_
    refine e_iload rfl rfl ?_
    refine Eg.p2 rfl (by decide) (by decide) rfl (Nat.le_of_ble_eq_true rfl) (xrcv_of rfl hM.1 rfl) ((ms_isPlace hM hv hw).mono (by decide)) ?_
    refine e_ifeq_b rfl (fun b19x => ?_) (fun b19x => ?_)
    · replace b19x := yn_0.mp b19x
      refine e_ipush rfl ?_
      refine e_istore rfl ?_
      refine e_iload rfl rfl ?_
      refine e_iload rfl rfl ?_
      refine e_ifeq_t rfl rfl ?_
      refine e_ipush rfl ?_
      refine e_ior rfl ?_
      rw [show (nI (whoN v S a n p)) ||| (0 : Int32) = nI (whoN v S a n p) from by rw [show (0 : Int32) = nI 0 from rfl, nI_or, Nat.or_zero]]
      refine e_istore rfl ?_
      refine e_iinc rfl rfl ?_
      refine e_goto rfl ?_
      refine Eg.pk [0, 1, 2, 3, 4, 5] [5, 4, 6, 0, 1, 2, 3] rfl (by decide) ?_
      rw [nI_1]
      rw [who_f (fun q => b19x q.1)] at ih
      exact ih
    · replace b19x := yn_n0.mp b19x
      refine e_aload rfl rfl ?_
      refine e_iload rfl rfl ?_
      refine e_iload rfl rfl ?_
      refine e_iload rfl rfl ?_
      refine e_iload rfl rfl ?_
      refine Eg.p5 rfl (by decide) (by decide) rfl (Nat.le_of_ble_eq_true rfl) (xrcv_of rfl hM.1 rfl) ((ms_openDays hM hv hw (S := S) (p := p) (a := a) (b := b) (n := n) (plc_P hw (by omega) b19x) (by omega) hn hb2x).mono (by decide)) ?_
      refine e_aload rfl rfl ?_
      refine e_iload rfl rfl ?_
      refine e_iload rfl rfl ?_
      refine e_iload rfl rfl ?_
      refine e_ipush rfl ?_
      refine Eg.p5 rfl (by decide) (by decide) rfl (Nat.le_of_ble_eq_true rfl) (xrcv_of rfl hM.1 rfl) ((ms_openDays hM hv hw (S := 0) (p := p) (a := a) (b := b) (n := n) (plc_P hw (by omega) b19x) (by omega) hn hb2x).mono (by decide)) ?_
      refine e_cge_b rfl (fun b40x => ?_) (fun b40x => ?_)
      · refine e_ipush rfl ?_
        refine e_istore rfl ?_
        refine e_iload rfl rfl ?_
        refine e_iload rfl rfl ?_
        refine e_ifeq_t rfl rfl ?_
        refine e_ipush rfl ?_
        refine e_ior rfl ?_
        rw [show (nI (whoN v S a n p)) ||| (0 : Int32) = nI (whoN v S a n p) from by rw [show (0 : Int32) = nI 0 from rfl, nI_or, Nat.or_zero]]
        refine e_istore rfl ?_
        refine e_iinc rfl rfl ?_
        refine e_goto rfl ?_
        refine Eg.pk [0, 1, 2, 3, 4, 5] [5, 4, 6, 0, 1, 2, 3] rfl (by decide) ?_
        rw [nI_1]
        rw [who_f (fun q => absurd ((nI_lei (by omega) (by omega)).mp b40x) (by have := q.2; simp only [Nat.or_zero] at *; omega))] at ih
        exact ih
      · refine e_ipush rfl ?_
        refine e_goto rfl ?_
        refine e_istore rfl ?_
        refine e_iload rfl rfl ?_
        refine e_iload rfl rfl ?_
        refine e_ifeq_f rfl (by decide) ?_
        refine e_ipush rfl ?_
        refine e_iload rfl rfl ?_
        refine e_ishl rfl ?_
        refine e_goto rfl ?_
        refine e_ior rfl ?_
        rw [show (nI (whoN v S a n p)) ||| (1 <<< ((nI p) &&& 31)) = nI (whoN v S a n p ||| 1 <<< p) from nI_setb (by omega)]
        refine e_istore rfl ?_
        refine e_iinc rfl rfl ?_
        refine e_goto rfl ?_
        refine Eg.pk [0, 1, 2, 3, 4, 5] [5, 4, 6, 0, 1, 2, 3] rfl (by decide) ?_
        rw [nI_1]
        rw [who_t ⟨b19x, Decidable.byContradiction (fun q => b40x ((nI_lei (by omega) (by omega)).mpr (by simp only [Nat.or_zero]; omega)))⟩] at ih
        exact ih
  · refine e_iload rfl rfl ?_
    refine e_ipush rfl ?_
    refine e_cge_t rfl (Int32.le_refl _) ?_
    refine e_iload rfl rfl ?_
    exact Eg.ret rfl (by decide) rfl ⟨rfl, rfl⟩
theorem ms_areOpen (hM : MW sh R) (hv : mV I v) (hw : Wf v) {t S a b n : Nat} (ht2x : t < 256) (ht : ∀ p, p < 8 → t.testBit p = true → isP v p) (hS : S < 4096) (hn : a + n = b + 1) (hn0x : 0 < n) (hb2x : b < 2 ^ 30) : Ec X 5 281 [.ref 290, .int (nI t), .int (nI a), .int (nI b), .int (nI S)] (sh, I, L, R) (fun r h' => r = some (.int (yn (okS v t a n S = true))) ∧ h' = (sh, I, L, R)) := by
  refine Ec.of (Nat.le_of_ble_eq_true rfl) ?_
  refine e_ipush rfl ?_
  refine e_istore rfl ?_
  refine Eg.pk [0, 1, 2, 3, 4, 5] [5, 0, 1, 2, 3, 4] rfl (by decide) ?_
  refine up_ind (p := fun p => (∀ q, q < p → t.testBit q = true → ∀ j, j < n → opF v (cn v 8 ||| S) q (nI (a + j)) = true) → Eg X xTc 4 281 3 [(0, .ref 290), (1, .int (nI t)), (2, .int (nI a)), (3, .int (nI b)), (4, .int (nI S)), (5, .int (nI p))] [] (sh, I, L, R) (fun r h' => r = some (.int (yn (okS v t a n S = true))) ∧ h' = (sh, I, L, R))) (n := 8) (j := 0) (fun p hj ih a1x => ?_) (fun a1x => ?_) (Nat.zero_le _) (fun q r => absurd r (by omega))
  · refine e_iload rfl rfl ?_
    refine e_ipush rfl ?_
    refine e_cge_f rfl (nI_ge (b := 8) hj (by decide)) ?_
    refine e_iload rfl rfl ?_
    refine e_istore rfl ?_
    refine Eg.pk [0, 1, 2, 3, 4, 5, 6] [6, 0, 1, 2, 3, 4, 5] rfl (by decide) ?_
    by_cases hb : t.testBit p = true
    · refine up_ind (p := fun j => (∀ i, i < j → opF v (cn v 8 ||| S) p (nI (a + i)) = true) → Eg X xTc 4 281 13 [(0, .ref 290), (1, .int (nI t)), (2, .int (nI a)), (3, .int (nI b)), (4, .int (nI S)), (5, .int (nI p)), (6, .int (nI (a + j)))] [] (sh, I, L, R) (fun r h' => r = some (.int (yn (okS v t a n S = true))) ∧ h' = (sh, I, L, R))) (n := n) (j := 0) (fun j hk ik c1x => ?_) (fun c1x => ?_) (Nat.zero_le _) (fun q r => absurd r (by omega))
      · refine e_iload rfl rfl ?_
        refine e_iload rfl rfl ?_
        refine e_cgt_f rfl (fun q => absurd ((nI_lti (by omega) (by omega)).mp q) (by omega)) ?_
        refine e_iload rfl rfl ?_
        refine e_iload rfl rfl ?_
        refine e_ishr rfl ?_
        refine e_ipush rfl ?_
        refine e_iand rfl ?_
        rw [show ((nI t) >>> ((nI p) &&& 31)) &&& (1 : Int32) = if t.testBit p = true then 1 else 0 from nI_bit (by omega) (by omega)]
        refine e_ipush rfl ?_
        refine e_cne_f rfl (if_pos hb) ?_
        refine e_aload rfl rfl ?_
        refine e_iload rfl rfl ?_
        refine e_iload rfl rfl ?_
        refine e_iload rfl rfl ?_
        refine e_ipush rfl ?_
        refine Eg.p5 rfl (by decide) (by decide) rfl (Nat.le_of_ble_eq_true rfl) (xrcv_of rfl hM.1 rfl) ((ms_isOpen0 hM hv hw (ht p hj hb) hS).mono (by decide)) ?_
        refine e_ifne_b rfl (fun b40x => ?_) (fun b40x => ?_)
        · replace b40x := yn_n0.mp b40x
          refine e_iinc rfl rfl ?_
          refine e_goto rfl ?_
          refine Eg.pk [0, 1, 2, 3, 4, 5, 6] [6, 0, 1, 2, 3, 4, 5] rfl (by decide) ?_
          rw [nI_1]
          refine ik (fun i r => ?_)
          rcases (show i < j ∨ i = j by omega) with e | e
          · exact c1x i e
          · rw [e]; exact decide_eq_true b40x
        · replace b40x := yn_0.mp b40x
          refine e_ipush rfl ?_
          exact Eg.ret rfl (by decide) rfl ⟨congrArg (fun z => some (Value.int z)) (yn_f (fun q => b40x (of_decide_eq_true (okS_iff.mp q p hj hb j hk)))).symm, rfl⟩
      · refine e_iload rfl rfl ?_
        refine e_iload rfl rfl ?_
        refine e_cgt_t rfl ((nI_lti (by omega) (by omega)).mpr (by omega)) ?_
        refine e_iinc rfl rfl ?_
        refine e_goto rfl ?_
        refine Eg.pk [0, 1, 2, 3, 4, 5] [5, 0, 1, 2, 3, 4, 6] rfl (by decide) ?_
        rw [nI_1]
        refine ih (fun q r1x r2x => ?_)
        rcases (show q < p ∨ q = p by omega) with e | e
        · exact a1x q e r2x
        · rw [e]; exact c1x
    · refine e_iload rfl rfl ?_
      refine e_iload rfl rfl ?_
      refine e_cgt_f rfl (fun q => absurd ((nI_lti (by omega) (by omega)).mp q) (by omega)) ?_
      refine e_iload rfl rfl ?_
      refine e_iload rfl rfl ?_
      refine e_ishr rfl ?_
      refine e_ipush rfl ?_
      refine e_iand rfl ?_
      rw [show ((nI t) >>> ((nI p) &&& 31)) &&& (1 : Int32) = if t.testBit p = true then 1 else 0 from nI_bit (by omega) (by omega)]
      refine e_ipush rfl ?_
      refine e_cne_t rfl (by rw [if_neg hb]; decide) ?_
      refine e_iinc rfl rfl ?_
      refine e_goto rfl ?_
      refine Eg.pk [0, 1, 2, 3, 4, 5] [5, 0, 1, 2, 3, 4, 6] rfl (by decide) ?_
      rw [nI_1]
      refine ih (fun q r1x r2x => ?_)
      rcases (show q < p ∨ q = p by omega) with e | e
      · exact a1x q e r2x
      · rw [e] at r2x; exact absurd r2x hb
  · refine e_iload rfl rfl ?_
    refine e_ipush rfl ?_
    refine e_cge_t rfl (Int32.le_refl _) ?_
    refine e_ipush rfl ?_
    exact Eg.ret rfl (by decide) rfl ⟨congrArg (fun z => some (Value.int z)) (yn_t (p := okS v t a n S = true) (okS_iff.mpr a1x)).symm, rfl⟩
theorem sub_29 {a b : Nat} (ha : a ≤ 9999) (hb : b ≤ 9999) (h : a ≤ b) : nI b - nI a ≤ 29 ↔ b ≤ a + 29 := by
  rw [nI_sub h]; have := nI_lei (a := b - a) (b := 29) (by omega) (by decide); rw [show (29 : Int32) = nI 29 from rfl, this]; omega
theorem md_fences (hM : MW sh R) (hv : mV I v) (hw : Wf v) {x y z kw : Int32} : Ec X 7 284 [.ref 290, .int x, .int y, .int z, .int kw] (sh, I, L, R) (fun r h' => (gFen v x y z kw ∧ r = some (.int (aFen v x y z kw)) ∧ h' = (sh, I, L, R)) ∨ (¬ gFen v x y z kw ∧ r = some (.int (-1)) ∧ h' = (sh, I, L, R))) := by
  have h12x := hw.1.2.1
  have K := two_le h12x
  have h8x := hw.1.2.2.2.2.2.2.2.2.2.1
  refine Ec.of (Nat.le_of_ble_eq_true rfl) ?_
  refine e_aload rfl rfl ?_
  refine Eg.p1 rfl (by decide) (by decide) rfl (Nat.le_of_ble_eq_true rfl) (xrcv_of rfl hM.1 rfl) ((ms_isSeaV hM hv hw).mono (by decide)) ?_
  refine e_ifeq_b rfl (fun b4x => ?_) (fun b4x => ?_)
  · replace b4x := yn_0.mp b4x
    refine e_ipush rfl ?_
    exact Eg.ret rfl (by decide) rfl (Or.inr ⟨fun q => b4x q.1, rfl, rfl⟩)
  · replace b4x := yn_n0.mp b4x
    refine e_iload rfl rfl ?_
    refine e_iflt_b rfl (fun b8x => ?_) (fun b8x => ?_)
    · refine e_ipush rfl ?_
      exact Eg.ret rfl (by decide) rfl (Or.inr ⟨fun q => by obtain ⟨t, q1x, rfl, -⟩ := hasPs_g q.2.1; exact absurd b8x (nI_pos (by omega)), rfl, rfl⟩)
    · refine e_iload rfl rfl ?_
      refine e_aload rfl rfl ?_
      refine Eg.p1 rfl (by decide) (by decide) rfl (Nat.le_of_ble_eq_true rfl) (xrcv_of rfl hM.1 rfl) ((ms_placesAll hM hv hw).mono (by decide)) ?_
      refine e_iand rfl ?_
      refine e_iload rfl rfl ?_
      refine e_cne_b rfl (fun b18x => ?_) (fun b18x => ?_)
      · refine e_ipush rfl ?_
        exact Eg.ret rfl (by decide) rfl (Or.inr ⟨fun q => by obtain ⟨t, lt, rfl⟩ := nI_of (x := x) b8x; exact b18x (by rw [nI_and]; exact congrArg nI ((plA_ok hw lt).mpr q.2.1)), rfl, rfl⟩)
      · refine e_iload rfl rfl ?_
        refine Eg.p1 rfl (by decide) (by decide) rfl (Nat.le_of_ble_eq_true rfl) (xrcv_ofs (Or.inl rfl)) (ms_isDay.mono (by decide)) ?_
        refine e_ifeq_b rfl (fun b25x => ?_) (fun b25x => ?_)
        · replace b25x := yn_0.mp b25x
          refine e_ipush rfl ?_
          exact Eg.ret rfl (by decide) rfl (Or.inr ⟨fun q => b25x q.2.2.2.1, rfl, rfl⟩)
        · replace b25x := yn_n0.mp b25x
          refine e_iload rfl rfl ?_
          refine Eg.p1 rfl (by decide) (by decide) rfl (Nat.le_of_ble_eq_true rfl) (xrcv_ofs (Or.inl rfl)) (ms_isDay.mono (by decide)) ?_
          refine e_ifeq_b rfl (fun b32x => ?_) (fun b32x => ?_)
          · replace b32x := yn_0.mp b32x
            refine e_ipush rfl ?_
            exact Eg.ret rfl (by decide) rfl (Or.inr ⟨fun q => b32x q.2.2.2.2.1, rfl, rfl⟩)
          · replace b32x := yn_n0.mp b32x
            refine e_iload rfl rfl ?_
            refine e_i2l rfl ?_
            refine e_iload rfl rfl ?_
            refine e_i2l rfl ?_
            refine e_iload rfl rfl ?_
            refine e_ipush rfl ?_
            refine e_iadd rfl ?_
            refine e_i2l rfl ?_
            refine Eg.p3 rfl (by decide) (by decide) rfl (Nat.le_of_ble_eq_true rfl) (xrcv_ofs (Or.inl rfl)) ((ms_inv (x := z) (y := y) (z := y + 29) rfl rfl rfl).mono (by decide)) ?_
            refine e_ifeq_b rfl (fun b47x => ?_) (fun b47x => ?_)
            · replace b47x := yn_0.mp b47x
              refine e_ipush rfl ?_
              exact Eg.ret rfl (by decide) rfl (Or.inr ⟨fun q => by obtain ⟨a, ha, rfl⟩ := day_n b25x; obtain ⟨b, hb, rfl⟩ := day_n b32x; exact b47x (fun r => by have hab : a ≤ b := Decidable.byContradiction (fun q2x => q.2.2.2.2.2.1 ((nI_lti (by omega) (by omega)).mpr (by omega))); have := (sub_29 ha hb hab).mp q.2.2.2.2.2.2; rcases r with r | r; exact q.2.2.2.2.2.1 r; rw [show nI a + 29 = nI (a + 29) from nI_add a 29] at r; have := (nI_lti (by omega) (by omega)).mp r; omega), rfl, rfl⟩)
            · replace b47x := yn_n0.mp b47x
              refine e_iload rfl rfl ?_
              refine e_i2l rfl ?_
              refine e_lpush rfl ?_
              refine e_lpush rfl ?_
              refine Eg.p3 rfl (by decide) (by decide) rfl (Nat.le_of_ble_eq_true rfl) (xrcv_ofs (Or.inl rfl)) ((ms_inv (x := kw) (y := 0) (z := 2) rfl rfl rfl).mono (by decide)) ?_
              refine e_ifne_b rfl (fun b60x => ?_) (fun b60x => ?_)
              · replace b60x := yn_n0.mp b60x
                refine e_ipush rfl ?_
                refine e_istore rfl ?_
                refine e_ipush rfl ?_
                refine e_istore rfl ?_
                refine Eg.pk [0, 1, 2, 3, 4, 5, 6] [6, 5, 0, 1, 2, 3, 4] rfl (by decide) ?_
                have hps : hasPs v x = true := by obtain ⟨t, lt, rfl⟩ := nI_of (x := x) b8x; rw [nI_and] at b18x; exact (plA_ok hw lt).mp ((nI_ij (Nat.lt_of_le_of_lt Nat.and_le_left lt) lt).mp b18x)
                have hk := kw_3 b60x
                obtain ⟨a, ha, rfl⟩ := day_n b25x
                obtain ⟨b, hb, rfl⟩ := day_n b32x
                have hab : a ≤ b := Decidable.byContradiction (fun q => b47x (Or.inl ((nI_lti (by omega) (by omega)).mpr (by omega))))
                have h29x : b ≤ a + 29 := Decidable.byContradiction (fun q => b47x (Or.inr (by rw [show nI a + 29 = nI (a + 29) from nI_add a 29]; exact (nI_lti (by omega) (by omega)).mpr (by omega))))
                have gg : gFen v x (nI a) (nI b) kw := ⟨b4x, hps, b60x, b25x, b32x, fun q => b47x (Or.inl q), (sub_29 ha hb hab).mpr h29x⟩
                obtain ⟨t, t256x, rfl, tp⟩ := hasPs_g hps
                obtain ⟨n, hn⟩ : ∃ n, a + n = b + 1 := ⟨b + 1 - a, by omega⟩
                rw [aFen_n (by omega) (by omega) (by omega) hn]
                have tP : ∀ p, p < 8 → t.testBit p = true → isP v p := fun p q r => plc_P hw (by omega) (tp p q r)
                refine up_ind (p := fun S => Eg X xTc 6 284 72 [(0, .ref 290), (1, .int (nI t)), (2, .int (nI a)), (3, .int (nI b)), (4, .int kw), (5, .int (oI (bst v t a n S))), (6, .int (nI S))] [] (sh, I, L, R) (fun r h' => (gFen v (nI t) (nI a) (nI b) kw ∧ r = some (.int (fenA v a n kw (bst v t a n (1 <<< cn v 0)))) ∧ h' = (sh, I, L, R)) ∨ (¬ gFen v (nI t) (nI a) (nI b) kw ∧ r = some (.int (-1)) ∧ h' = (sh, I, L, R)))) (n := 1 <<< cn v 0) (j := 0) (fun S hj ih => ?_) ?_ (Nat.zero_le _)
                · rw [bst_s] at ih
                  have zl : ∀ q, bst v t a n S = some q → q < 4096 := fun q e => by have := bst_lt e; omega
                  generalize bst v t a n S = z at ih zl ⊢
                  have sb := bitN_le (S := S)
                  have al : S &&& cn v 8 < 2 ^ 31 := Nat.lt_of_le_of_lt Nat.and_le_right (by omega)
                  rcases z with _ | q
                  · skip
                    refine e_iload rfl rfl ?_
                    refine e_ipush rfl ?_
                    refine e_aload rfl rfl ?_
                    refine e_getR rfl hM.1 (show R 290 1 = some 291 from (hM.2 0 _ rfl).2) ?_
                    refine e_ipush rfl ?_
                    refine e_ialv (t := 0) (n := 14) rfl (show sh[291]? = some (20, 14) from (hM.2 0 _ rfl).1) rfl (by decide) (by decide) (hv.n hw (j := 0) (by decide)) ?_
                    refine e_ishl rfl ?_
                    rw [show 1 <<< ((nI (cn v 0)) &&& 31) = nI (1 <<< cn v 0) from nI_shl (F := 1) (by omega)]
                    refine e_cge_f rfl (nI_ge hj (by omega)) ?_
                    refine e_iload rfl rfl ?_
                    refine e_aload rfl rfl ?_
                    refine e_getR rfl hM.1 (show R 290 1 = some 291 from (hM.2 0 _ rfl).2) ?_
                    refine e_ipush rfl ?_
                    refine e_ialv (t := 8) (n := 14) rfl (show sh[291]? = some (20, 14) from (hM.2 0 _ rfl).1) rfl (by decide) (by decide) (hv.n hw (j := 8) (by decide)) ?_
                    refine e_iand rfl ?_
                    rw [show (nI S) &&& (nI (cn v 8)) = nI (S &&& cn v 8) from nI_and _ _]
                    refine e_ifne_b rfl (fun b95x => ?_) (fun b95x => ?_)
                    · refine e_ipush rfl ?_
                      refine e_istore rfl ?_
                      refine e_iload rfl rfl ?_
                      refine e_ifeq_t rfl rfl ?_
                      refine e_iload rfl rfl ?_
                      refine e_istore rfl ?_
                      refine e_iinc rfl rfl ?_
                      refine e_goto rfl ?_
                      refine Eg.pk [0, 1, 2, 3, 4, 5, 6] [6, 5, 7, 0, 1, 2, 3, 4] rfl (by decide) ?_
                      rw [nI_1]
                      rw [show bsS v t a n S none = none from if_neg (fun r => b95x ((nI_ij (b := 0) al (by decide)).mpr r.1))] at ih
                      exact ih
                    · refine e_iload rfl rfl ?_
                      refine e_ipush rfl ?_
                      refine e_ceq_t rfl rfl ?_
                      refine e_ipush rfl ?_
                      refine e_goto rfl ?_
                      refine e_istore rfl ?_
                      refine e_iload rfl rfl ?_
                      refine e_ifeq_f rfl (by decide) ?_
                      refine e_aload rfl rfl ?_
                      refine e_iload rfl rfl ?_
                      refine e_iload rfl rfl ?_
                      refine e_iload rfl rfl ?_
                      refine e_iload rfl rfl ?_
                      refine Eg.p5 rfl (by decide) (by decide) rfl (Nat.le_of_ble_eq_true rfl) (xrcv_of rfl hM.1 rfl) ((ms_areOpen hM hv hw t256x tP (by omega) hn (by omega) (by omega)).mono (by decide)) ?_
                      refine e_ifeq_b rfl (fun b139x => ?_) (fun b139x => ?_)
                      · replace b139x := yn_0.mp b139x
                        refine e_iload rfl rfl ?_
                        refine e_istore rfl ?_
                        refine e_iinc rfl rfl ?_
                        refine e_goto rfl ?_
                        refine Eg.pk [0, 1, 2, 3, 4, 5, 6] [6, 5, 7, 0, 1, 2, 3, 4] rfl (by decide) ?_
                        rw [nI_1]
                        rw [show bsS v t a n S none = none from if_neg (fun r => b139x r.2.2)] at ih
                        exact ih
                      · replace b139x := yn_n0.mp b139x
                        refine e_iload rfl rfl ?_
                        refine e_goto rfl ?_
                        refine e_istore rfl ?_
                        refine e_iinc rfl rfl ?_
                        refine e_goto rfl ?_
                        refine Eg.pk [0, 1, 2, 3, 4, 5, 6] [6, 5, 7, 0, 1, 2, 3, 4] rfl (by decide) ?_
                        rw [nI_1]
                        rw [show bsS v t a n S none = some S from if_pos ⟨(nI_ij (b := 0) al (by decide)).mp b95x, show bitN S < 13 by omega, b139x⟩] at ih
                        exact ih
                  · have q4x := zl q rfl
                    have qb := bitN_le (S := q)
                    refine e_iload rfl rfl ?_
                    refine e_ipush rfl ?_
                    refine e_aload rfl rfl ?_
                    refine e_getR rfl hM.1 (show R 290 1 = some 291 from (hM.2 0 _ rfl).2) ?_
                    refine e_ipush rfl ?_
                    refine e_ialv (t := 0) (n := 14) rfl (show sh[291]? = some (20, 14) from (hM.2 0 _ rfl).1) rfl (by decide) (by decide) (hv.n hw (j := 0) (by decide)) ?_
                    refine e_ishl rfl ?_
                    rw [show 1 <<< ((nI (cn v 0)) &&& 31) = nI (1 <<< cn v 0) from nI_shl (F := 1) (by omega)]
                    refine e_cge_f rfl (nI_ge hj (by omega)) ?_
                    refine e_iload rfl rfl ?_
                    refine e_aload rfl rfl ?_
                    refine e_getR rfl hM.1 (show R 290 1 = some 291 from (hM.2 0 _ rfl).2) ?_
                    refine e_ipush rfl ?_
                    refine e_ialv (t := 8) (n := 14) rfl (show sh[291]? = some (20, 14) from (hM.2 0 _ rfl).1) rfl (by decide) (by decide) (hv.n hw (j := 8) (by decide)) ?_
                    refine e_iand rfl ?_
                    rw [show (nI S) &&& (nI (cn v 8)) = nI (S &&& cn v 8) from nI_and _ _]
                    refine e_ifne_b rfl (fun b95x => ?_) (fun b95x => ?_)
                    · refine e_ipush rfl ?_
                      refine e_istore rfl ?_
                      refine e_iload rfl rfl ?_
                      refine e_ifeq_t rfl rfl ?_
                      refine e_iload rfl rfl ?_
                      refine e_istore rfl ?_
                      refine e_iinc rfl rfl ?_
                      refine e_goto rfl ?_
                      refine Eg.pk [0, 1, 2, 3, 4, 5, 6] [6, 5, 7, 0, 1, 2, 3, 4] rfl (by decide) ?_
                      rw [nI_1]
                      rw [show bsS v t a n S (some q) = (some q) from if_neg (fun r => b95x ((nI_ij (b := 0) al (by decide)).mpr r.1))] at ih
                      exact ih
                    · refine e_iload rfl rfl ?_
                      refine e_ipush rfl ?_
                      refine e_ceq_f rfl (nI_m2 (S := q) (by omega)) ?_
                      refine e_iload rfl rfl ?_
                      refine Eg.p1 rfl (by decide) (by decide) rfl (Nat.le_of_ble_eq_true rfl) (xrcv_ofs (Or.inl rfl)) ((ms_bits (S := S) (by omega)).mono (by decide)) ?_
                      refine e_iload rfl rfl ?_
                      refine Eg.p1 rfl (by decide) (by decide) rfl (Nat.le_of_ble_eq_true rfl) (xrcv_ofs (Or.inl rfl)) ((ms_bits (S := q) (by omega)).mono (by decide)) ?_
                      refine e_cge_b rfl (fun b115x => ?_) (fun b115x => ?_)
                      · refine e_ipush rfl ?_
                        refine e_istore rfl ?_
                        refine e_iload rfl rfl ?_
                        refine e_ifeq_t rfl rfl ?_
                        refine e_iload rfl rfl ?_
                        refine e_istore rfl ?_
                        refine e_iinc rfl rfl ?_
                        refine e_goto rfl ?_
                        refine Eg.pk [0, 1, 2, 3, 4, 5, 6] [6, 5, 7, 0, 1, 2, 3, 4] rfl (by decide) ?_
                        rw [nI_1]
                        rw [show bsS v t a n S (some q) = (some q) from if_neg (fun r => absurd ((nI_lei (by omega) (by omega)).mp b115x) (by have : bitN S < bitN q := r.2.1; omega))] at ih
                        exact ih
                      · refine e_ipush rfl ?_
                        refine e_goto rfl ?_
                        refine e_istore rfl ?_
                        refine e_iload rfl rfl ?_
                        refine e_ifeq_f rfl (by decide) ?_
                        refine e_aload rfl rfl ?_
                        refine e_iload rfl rfl ?_
                        refine e_iload rfl rfl ?_
                        refine e_iload rfl rfl ?_
                        refine e_iload rfl rfl ?_
                        refine Eg.p5 rfl (by decide) (by decide) rfl (Nat.le_of_ble_eq_true rfl) (xrcv_of rfl hM.1 rfl) ((ms_areOpen hM hv hw t256x tP (by omega) hn (by omega) (by omega)).mono (by decide)) ?_
                        refine e_ifeq_b rfl (fun b139x => ?_) (fun b139x => ?_)
                        · replace b139x := yn_0.mp b139x
                          refine e_iload rfl rfl ?_
                          refine e_istore rfl ?_
                          refine e_iinc rfl rfl ?_
                          refine e_goto rfl ?_
                          refine Eg.pk [0, 1, 2, 3, 4, 5, 6] [6, 5, 7, 0, 1, 2, 3, 4] rfl (by decide) ?_
                          rw [nI_1]
                          rw [show bsS v t a n S (some q) = (some q) from if_neg (fun r => b139x r.2.2)] at ih
                          exact ih
                        · replace b139x := yn_n0.mp b139x
                          refine e_iload rfl rfl ?_
                          refine e_goto rfl ?_
                          refine e_istore rfl ?_
                          refine e_iinc rfl rfl ?_
                          refine e_goto rfl ?_
                          refine Eg.pk [0, 1, 2, 3, 4, 5, 6] [6, 5, 7, 0, 1, 2, 3, 4] rfl (by decide) ?_
                          rw [nI_1]
                          rw [show bsS v t a n S (some q) = some S from if_pos ⟨(nI_ij (b := 0) al (by decide)).mp b95x, show bitN S < bitN q from Decidable.byContradiction (fun r => b115x ((nI_lei (by omega) (by omega)).mpr (by omega))), b139x⟩] at ih
                          exact ih
                · rcases e : bst v t a n (1 <<< cn v 0) with _ | S
                  · skip
                    refine e_iload rfl rfl ?_
                    refine e_ipush rfl ?_
                    refine e_aload rfl rfl ?_
                    refine e_getR rfl hM.1 (show R 290 1 = some 291 from (hM.2 0 _ rfl).2) ?_
                    refine e_ipush rfl ?_
                    refine e_ialv (t := 0) (n := 14) rfl (show sh[291]? = some (20, 14) from (hM.2 0 _ rfl).1) rfl (by decide) (by decide) (hv.n hw (j := 0) (by decide)) ?_
                    refine e_ishl rfl ?_
                    rw [show 1 <<< ((nI (cn v 0)) &&& 31) = nI (1 <<< cn v 0) from nI_shl (F := 1) (by omega)]
                    refine e_cge_t rfl (Int32.le_refl _) ?_
                    refine e_iload rfl rfl ?_
                    refine e_ipush rfl ?_
                    refine e_cne_f rfl rfl ?_
                    refine e_ipush rfl ?_
                    refine e_goto rfl ?_
                    exact Eg.ret rfl (by decide) rfl (Or.inl ⟨gg, rfl, rfl⟩)
                  · have S4x : S < 4096 := Nat.lt_of_lt_of_le (bst_lt e) K
                    rw [show oI (some S) = nI S from rfl]
                    refine e_iload rfl rfl ?_
                    refine e_ipush rfl ?_
                    refine e_aload rfl rfl ?_
                    refine e_getR rfl hM.1 (show R 290 1 = some 291 from (hM.2 0 _ rfl).2) ?_
                    refine e_ipush rfl ?_
                    refine e_ialv (t := 0) (n := 14) rfl (show sh[291]? = some (20, 14) from (hM.2 0 _ rfl).1) rfl (by decide) (by decide) (hv.n hw (j := 0) (by decide)) ?_
                    refine e_ishl rfl ?_
                    rw [show 1 <<< ((nI (cn v 0)) &&& 31) = nI (1 <<< cn v 0) from nI_shl (F := 1) (by omega)]
                    refine e_cge_t rfl (Int32.le_refl _) ?_
                    refine e_iload rfl rfl ?_
                    refine e_ipush rfl ?_
                    refine e_cne_t rfl (nI_m2 (by omega)) ?_
                    refine e_iload rfl rfl ?_
                    refine e_ifne_b rfl (fun b171x => ?_) (fun b171x => ?_)
                    · refine e_iload rfl rfl ?_
                      refine e_ipush rfl ?_
                      refine e_cne_b rfl (fun b185x => ?_) (fun b185x => ?_)
                      · refine e_aload rfl rfl ?_
                        refine e_iload rfl rfl ?_
                        refine e_iload rfl rfl ?_
                        refine e_iload rfl rfl ?_
                        refine Eg.p4 rfl (by decide) (by decide) rfl (Nat.le_of_ble_eq_true rfl) (xrcv_of rfl hM.1 rfl) ((ms_whose hM hv hw (S := S) (a := a) (b := b) (n := n) S4x hn (by omega)).mono (by decide)) ?_
                        exact Eg.ret rfl (by decide) rfl (Or.inl ⟨gg, congrArg (fun q => some (Value.int q)) (Eq.symm (fenA_2 b171x b185x)), rfl⟩)
                      · refine e_iload rfl rfl ?_
                        refine e_goto rfl ?_
                        exact Eg.ret rfl (by decide) rfl (Or.inl ⟨gg, congrArg (fun q => some (Value.int q)) (Eq.symm (fenA_1 b171x b185x)), rfl⟩)
                    · refine e_iload rfl rfl ?_
                      refine Eg.p1 rfl (by decide) (by decide) rfl (Nat.le_of_ble_eq_true rfl) (xrcv_ofs (Or.inl rfl)) ((ms_bits (S := S) (by omega)).mono (by decide)) ?_
                      refine e_goto rfl ?_
                      exact Eg.ret rfl (by decide) rfl (Or.inl ⟨gg, congrArg (fun q => some (Value.int q)) (Eq.symm (fenA_0 b171x)), rfl⟩)
              · replace b60x := yn_0.mp b60x
                refine e_ipush rfl ?_
                exact Eg.ret rfl (by decide) rfl (Or.inr ⟨fun q => b60x q.2.2.1, rfl, rfl⟩)
end FM
