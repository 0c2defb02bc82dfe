/-! order: the other side -/
section OM
variable {X : xX} {h : xH} {sh : List (Nat × Nat)} {I : Nat → Nat → Int32} {L : Nat → Nat → Int64} {R : Nat → Nat → Option Nat} {v : Nat → Nat → Int32}
theorem oC_b {r : Nat → Nat} (hF : WfF v) (hN : cn v 12 ≤ 6) (hr : ∀ k, k < cn v 12 → r k < cn v 12) : ∀ k, k ≤ cn v 12 → oS v r k ≤ 99 * k ∧ oC v r k ≤ 68607 * k := by
  intro k
  induction k with
  | zero => intro _; exact ⟨Nat.le_refl _, Nat.le_refl _⟩
  | succ k ih =>
    intro h
    obtain ⟨i1x, i2x⟩ := ih (by omega)
    have q0x := hr k (by omega)
    have q1x := (hF _ q0x 31 (by decide)).2
    have q2x := (hF _ q0x 30 (by decide)).2
    have q3x := (hF _ q0x 29 (by decide)).2
    refine ⟨by show oS v r k + flN v 31 (r k) ≤ _; omega, ?_⟩
    have q4x : flN v 30 (r k) * (flN v 29 (r k) + oS v r k) ≤ 99 * 693 := Nat.mul_le_mul q2x (by omega)
    show oC v r k + flN v 30 (r k) * (flN v 29 (r k) + oS v r k) ≤ _
    omega
theorem nn_b {n : Nat} (hn : n ≤ 6) : 0 < n ^ n ∧ n ^ n ≤ 46656 := by
  have h : ∀ n, n < 7 → 0 < n ^ n ∧ n ^ n ≤ 46656 := by decide +kernel
  exact h n (by omega)
theorem npow_b {n k : Nat} (hn : n ≤ 6) (hk : k ≤ n) : n ^ k ≤ 46656 := by
  by_cases h : n = 0
  · have : k = 0 := by omega
    rw [this, Nat.pow_zero]; decide
  · exact Nat.le_trans (Nat.pow_le_pow_right (by omega) hk) (nn_b hn).2
def ansD (v : Nat → Nat → Int32) (c : Nat) : Int32 := if oA (dgR (cn v 12) c) (cn v 12) + 1 = 1 <<< cn v 12 then nI (cstN v c) else -1
def oV (v : Nat → Nat → Int32) : Option Nat → Int32
  | none => -1
  | some b => nI (cstN v b)
theorem cst_b (hF : WfF v) (hN : cn v 12 ≤ 6) (h0x : 0 < cn v 12) {c : Nat} : cstN v c ≤ 420000 := by
  have := (oC_b hF hN (r := dgR (cn v 12) c) (fun k _ => dg_lt h0x) _ (Nat.le_refl _)).2
  unfold cstN
  omega
theorem ms_duesOf (hM : MW sh R) (hN : cn v 12 ≤ 6) (h0x : 0 < cn v 12) (hF : WfF v) (h12x : I 291 12 = nI (cn v 12)) (hfl : ∀ f t, 29 ≤ f ∧ f < 32 → t < cn v 12 → I (290 + f) t = nI (flN v f t)) {c : Nat} (hc : c < cn v 12 ^ cn v 12) : Ec X 1 297 [.ref 290, .int (nI c)] (sh, I, L, R) (fun r h' => r = some (.int (ansD v c)) ∧ ∃ J : Nat → Nat → Int32, h' = (sh, J, L, R) ∧ (∀ k, k < cn v 12 → J 356 k = nI (dgR (cn v 12) c k)) ∧ ∀ i k, i ≠ 356 → J i k = I i k) := by
  have l64x := sixty hN
  have c6x := (nn_b hN).2
  obtain ⟨a, ha⟩ : ∃ a, 1 <<< cn v 12 = a + 1 := ⟨1 <<< cn v 12 - 1, by have := Nat.two_pow_pos (cn v 12); rw [Nat.one_shiftLeft]; omega⟩
  have rl : ∀ j, (fun j => c / cn v 12 ^ j % cn v 12) j < cn v 12 := fun j => Nat.mod_lt _ h0x
  have rv : oA (fun j => c / cn v 12 ^ j % cn v 12) (cn v 12) = oA (dgR (cn v 12) c) (cn v 12) := oA_rev (fun j hj => by show _ = c / cn v 12 ^ (cn v 12 - 1 - (cn v 12 - 1 - j)) % cn v 12; rw [show cn v 12 - 1 - (cn v 12 - 1 - j) = j by omega])
  have ul := oA_lt hN (r := (fun j => c / cn v 12 ^ j % cn v 12)) (fun k _ => rl k) _ (Nat.le_refl _)
  have nz : ¬ nI (cn v 12) = 0 := fun e => by have := (nI_ij (b := 0) (by omega) (by decide)).mp e; omega
  have hd := fun k (_ : k < cn v 12) => dg_lt (n := cn v 12) (c := c) (k := k) h0x
  have hcb := oC_b hF hN (r := dgR (cn v 12) c) hd
  have main : ∀ i j, i + j = cn v 12 → ∀ J : Nat → Nat → Int32, (∀ k, i ≤ k → k < cn v 12 → J 356 k = nI (dgR (cn v 12) c k)) → (∀ i k, i ≠ 356 → J i k = I i k) → Eg X xTc 0 297 18 [(0, .ref 290), (1, .int (nI c)), (2, .int (nI (cn v 12))), (3, .int (nI (c / cn v 12 ^ j))), (4, .int (nI (oA (fun j => c / cn v 12 ^ j % cn v 12) j))), (5, .int (nI i - 1))] [] (sh, J, L, R) (fun r h' => r = some (.int (ansD v c)) ∧ ∃ J : Nat → Nat → Int32, h' = (sh, J, L, R) ∧ (∀ k, k < cn v 12 → J 356 k = nI (dgR (cn v 12) c k)) ∧ ∀ i k, i ≠ 356 → J i k = I i k) := by
    intro i
    induction i with
    | zero =>
      intro j ij J k1x k2x
      rw [show nI 0 - (1 : Int32) = -1 from rfl, show j = cn v 12 by omega]
      have hfl : ∀ f t, 29 ≤ f ∧ f < 32 → t < cn v 12 → J (290 + f) t = nI (flN v f t) := fun f t q r => (k2x _ _ (by omega)).trans (hfl f t q r)
      refine e_iload rfl rfl ?_
      refine e_iflt_t rfl (by decide) ?_
      refine e_iload rfl rfl ?_
      refine e_ipush rfl ?_
      refine e_iload rfl rfl ?_
      refine e_ishl rfl ?_
      rw [show 1 <<< ((nI (cn v 12)) &&& 31) = nI (a + 1) from by rw [← ha]; exact nI_shl (F := 1) (by omega)]
      refine e_ipush rfl ?_
      refine e_isub rfl ?_
      rw [show (nI (a + 1)) - (1 : Int32) = nI a from nI_sub (a := a + 1) (b := 1) (by omega)]
      refine e_ceq_b rfl (fun b64x => ?_) (fun b64x => ?_)
      · have okc : oA (dgR (cn v 12) c) (cn v 12) + 1 = 1 <<< cn v 12 := by have := (nI_ij (by omega) (by omega)).mp b64x; rw [← rv]; omega
        refine e_ipush rfl ?_
        refine e_istore rfl ?_
        refine e_ipush rfl ?_
        refine e_istore rfl ?_
        refine e_ipush rfl ?_
        refine e_istore rfl ?_
        refine Eg.pk [0, 1, 2, 3, 4, 5, 6, 7] [7, 6, 5, 0, 1, 2, 3, 4] rfl (by decide) ?_
        refine up_ind (p := fun k => Eg X xTc 0 297 78 [(0, .ref 290), (1, .int (nI c)), (2, .int (nI (cn v 12))), (3, .int (nI (c / cn v 12 ^ cn v 12))), (4, .int (nI (oA (fun j => c / cn v 12 ^ j % cn v 12) (cn v 12)))), (5, .int (nI (oS v (dgR (cn v 12) c) k))), (6, .int (nI (oC v (dgR (cn v 12) c) k))), (7, .int (nI k))] [] (sh, J, L, R) (fun r h' => r = some (.int (ansD v c)) ∧ ∃ J : Nat → Nat → Int32, h' = (sh, J, L, R) ∧ (∀ k, k < cn v 12 → J 356 k = nI (dgR (cn v 12) c k)) ∧ ∀ i k, i ≠ 356 → J i k = I i k)) (n := cn v 12) (j := 0) (fun k hk ih => ?_) ?_ (Nat.zero_le _)
        · have dk := hd k hk
          refine e_iload rfl rfl ?_
          refine e_iload rfl rfl ?_
          refine e_cge_f rfl (nI_ge hk (by omega)) ?_
          refine e_iload rfl rfl ?_
          refine e_aload rfl rfl ?_
          refine e_getR rfl hM.1 (show R 290 30 = some 320 from (hM.2 29 _ rfl).2) ?_
          refine e_aload rfl rfl ?_
          refine e_getR rfl hM.1 (show R 290 82 = some 356 from (hM.2 65 _ rfl).2) ?_
          refine e_iload rfl rfl ?_
          refine e_ialv (t := k) (n := 6) rfl (show sh[356]? = some (20, 6) from (hM.2 65 _ rfl).1) rfl (by omega) (by decide) (k1x k (Nat.zero_le _) hk) ?_
          refine e_ialv (t := dgR (cn v 12) c k) (n := 6) rfl (show sh[320]? = some (20, 6) from (hM.2 29 _ rfl).1) rfl (by omega) (by decide) (hfl 30 (dgR (cn v 12) c k) (by decide) (by omega)) ?_
          refine e_aload rfl rfl ?_
          refine e_getR rfl hM.1 (show R 290 29 = some 319 from (hM.2 28 _ rfl).2) ?_
          refine e_aload rfl rfl ?_
          refine e_getR rfl hM.1 (show R 290 82 = some 356 from (hM.2 65 _ rfl).2) ?_
          refine e_iload rfl rfl ?_
          refine e_ialv (t := k) (n := 6) rfl (show sh[356]? = some (20, 6) from (hM.2 65 _ rfl).1) rfl (by omega) (by decide) (k1x k (Nat.zero_le _) hk) ?_
          refine e_ialv (t := dgR (cn v 12) c k) (n := 6) rfl (show sh[319]? = some (20, 6) from (hM.2 28 _ rfl).1) rfl (by omega) (by decide) (hfl 29 (dgR (cn v 12) c k) (by decide) (by omega)) ?_
          refine e_iload rfl rfl ?_
          refine e_iadd rfl ?_
          rw [show (nI (flN v 29 (dgR (cn v 12) c k))) + (nI (oS v (dgR (cn v 12) c) k)) = nI (flN v 29 (dgR (cn v 12) c k) + oS v (dgR (cn v 12) c) k) from nI_add _ _]
          refine e_imul rfl ?_
          rw [show (nI (flN v 30 (dgR (cn v 12) c k))) * (nI (flN v 29 (dgR (cn v 12) c k) + oS v (dgR (cn v 12) c) k)) = nI (flN v 30 (dgR (cn v 12) c k) * (flN v 29 (dgR (cn v 12) c k) + oS v (dgR (cn v 12) c) k)) from nI_times _ _]
          refine e_iadd rfl ?_
          rw [show (nI (oC v (dgR (cn v 12) c) k)) + (nI (flN v 30 (dgR (cn v 12) c k) * (flN v 29 (dgR (cn v 12) c k) + oS v (dgR (cn v 12) c) k))) = nI (oC v (dgR (cn v 12) c) (k + 1)) from nI_add _ _]
          refine e_istore rfl ?_
          refine e_iload rfl rfl ?_
          refine e_aload rfl rfl ?_
          refine e_getR rfl hM.1 (show R 290 31 = some 321 from (hM.2 30 _ rfl).2) ?_
          refine e_aload rfl rfl ?_
          refine e_getR rfl hM.1 (show R 290 82 = some 356 from (hM.2 65 _ rfl).2) ?_
          refine e_iload rfl rfl ?_
          refine e_ialv (t := k) (n := 6) rfl (show sh[356]? = some (20, 6) from (hM.2 65 _ rfl).1) rfl (by omega) (by decide) (k1x k (Nat.zero_le _) hk) ?_
          refine e_ialv (t := dgR (cn v 12) c k) (n := 6) rfl (show sh[321]? = some (20, 6) from (hM.2 30 _ rfl).1) rfl (by omega) (by decide) (hfl 31 (dgR (cn v 12) c k) (by decide) (by omega)) ?_
          refine e_iadd rfl ?_
          rw [show (nI (oS v (dgR (cn v 12) c) k)) + (nI (flN v 31 (dgR (cn v 12) c k))) = nI (oS v (dgR (cn v 12) c) (k + 1)) from nI_add _ _]
          refine e_istore rfl ?_
          refine e_iinc rfl rfl ?_
          refine e_goto rfl ?_
          refine Eg.pk [0, 1, 2, 3, 4, 5, 6, 7] [7, 5, 6, 0, 1, 2, 3, 4] rfl (by decide) ?_
          rw [nI_1]
          exact ih
        · refine e_iload rfl rfl ?_
          refine e_iload rfl rfl ?_
          refine e_cge_t rfl (Int32.le_refl _) ?_
          refine e_iload rfl rfl ?_
          exact Eg.ret rfl (by decide) rfl ⟨congrArg (fun q => some (Value.int q)) (show _ = ansD v c from (if_pos okc).symm), J, rfl, fun k q => k1x k (Nat.zero_le _) q, k2x⟩
      · refine e_ipush rfl ?_
        exact Eg.ret rfl (by decide) rfl ⟨congrArg (fun q => some (Value.int q)) (show _ = ansD v c from (if_neg (fun q => b64x (congrArg nI (by rw [rv]; omega)))).symm), J, rfl, fun k q => k1x k (Nat.zero_le _) q, k2x⟩
    | succ i ih =>
      intro j ij J k1x k2x
      rw [show nI (i + 1) - (1 : Int32) = nI i from nI_sub (a := i + 1) (b := 1) (by omega)]
      have cl : c / cn v 12 ^ j ≤ c := Nat.div_le_self _ _
      have dl : c / cn v 12 ^ j % cn v 12 < cn v 12 := rl j
      refine e_iload rfl rfl ?_
      refine e_iflt_f rfl (nI_pos (by omega)) ?_
      refine e_aload rfl rfl ?_
      refine e_getR rfl hM.1 (show R 290 82 = some 356 from (hM.2 65 _ rfl).2) ?_
      refine e_iload rfl rfl ?_
      refine e_iload rfl rfl ?_
      refine e_iload rfl rfl ?_
      refine e_irem rfl nz ?_
      rw [show (nI (c / cn v 12 ^ j)) - (nI (c / cn v 12 ^ j)) / (nI (cn v 12)) * (nI (cn v 12)) = nI (c / cn v 12 ^ j % cn v 12) from nI_modz (by omega) (by omega)]
      refine e_iasJ (t := i) (n := 6) rfl (show sh[356]? = some (20, 6) from (hM.2 65 _ rfl).1) rfl (by omega) (by decide) (fun J21x g21x f21x => ?_)
      refine e_iload rfl rfl ?_
      refine e_ipush rfl ?_
      refine e_aload rfl rfl ?_
      refine e_getR rfl hM.1 (show R 290 82 = some 356 from (hM.2 65 _ rfl).2) ?_
      refine e_iload rfl rfl ?_
      refine e_ialv (t := i) (n := 6) rfl (show sh[356]? = some (20, 6) from (hM.2 65 _ rfl).1) rfl (by omega) (by decide) g21x ?_
      refine e_ishl rfl ?_
      rw [show 1 <<< ((nI (c / cn v 12 ^ j % cn v 12)) &&& 31) = nI (1 <<< (c / cn v 12 ^ j % cn v 12)) from nI_shl (F := 1) (by omega)]
      refine e_ior rfl ?_
      rw [show (nI (oA (fun j => c / cn v 12 ^ j % cn v 12) j)) ||| (nI (1 <<< (c / cn v 12 ^ j % cn v 12))) = nI (oA (fun j => c / cn v 12 ^ j % cn v 12) j ||| 1 <<< (c / cn v 12 ^ j % cn v 12)) from nI_or _ _]
      refine e_istore rfl ?_
      refine e_iload rfl rfl ?_
      refine e_iload rfl rfl ?_
      refine e_idiv rfl nz ?_
      rw [show (nI (c / cn v 12 ^ j)) / (nI (cn v 12)) = nI (c / cn v 12 ^ j / cn v 12) from nI_div (by omega) (by omega)]
      refine e_istore rfl ?_
      refine e_iinc rfl rfl ?_
      refine e_goto rfl ?_
      refine Eg.pk [0, 1, 2, 3, 4, 5] [5, 3, 4, 0, 1, 2] rfl (by decide) ?_
      rw [show nI i + -1 = nI i - (1 : Int32) from by grind]
      have ih2x := ih (j + 1) (by omega) J21x (fun k b1x b2x => ?_) (fun p k q => (f21x p k (Or.inl q)).trans (k2x p k q))
      · rw [show c / cn v 12 ^ (j + 1) = c / cn v 12 ^ j / cn v 12 from by rw [Nat.pow_succ, Nat.div_div_eq_div_mul]] at ih2x; exact ih2x
      · by_cases e : k = i
        · subst e; rw [g21x]; show _ = nI (c / cn v 12 ^ (cn v 12 - 1 - k) % cn v 12); rw [show cn v 12 - 1 - k = j by omega]
        · exact (f21x 356 k (Or.inr e)).trans (k1x k (by omega) b2x)
  refine Ec.of (Nat.le_of_ble_eq_true rfl) ?_
  refine e_aload rfl rfl ?_
  refine e_getR rfl hM.1 (show R 290 1 = some 291 from (hM.2 0 _ rfl).2) ?_
  refine e_ipush rfl ?_
  refine e_ialv (t := 12) (n := 14) rfl (show sh[291]? = some (20, 14) from (hM.2 0 _ rfl).1) rfl (by decide) (by decide) h12x ?_
  refine e_istore rfl ?_
  refine e_iload rfl rfl ?_
  refine e_istore rfl ?_
  refine e_ipush rfl ?_
  refine e_istore rfl ?_
  refine e_iload rfl rfl ?_
  refine e_ipush rfl ?_
  refine e_isub rfl ?_
  refine e_istore rfl ?_
  refine Eg.pk [0, 1, 2, 3, 4, 5] [5, 4, 3, 2, 0, 1] rfl (by decide) ?_
  have mm := main (cn v 12) 0 (by omega) I (fun k b1x b2x => absurd b2x (by omega)) (fun _ _ _ => rfl)
  rw [Nat.pow_zero, Nat.div_one] at mm
  exact mm
theorem md_order (hM : MW sh R) (hv : mV I v) (hw : Wf v) (hF : WfF v) {kw : Int32} : Ec X 2 298 [.ref 290, .int kw] (sh, I, L, R) (fun r h' => r = some (.int (qOrd v kw)) ∧ ∃ J : Nat → Nat → Int32, h' = (sh, J, L, R) ∧ ∀ i k, i ≠ 356 → i ≠ 357 → J i k = I i k) := by
  have hN : cn v 12 ≤ 6 := by have := hw.1.2; omega
  have h12x : I 291 12 = nI (cn v 12) := hv.n hw (j := 12) (by decide)
  have hfl : ∀ f t, 29 ≤ f ∧ f < 32 → t < cn v 12 → I (290 + f) t = nI (flN v f t) := fun f t q r => (hv f t (by omega)).trans (hF t r f q).1
  have nn := nn_b hN
  refine Ec.of (Nat.le_of_ble_eq_true rfl) ?_
  refine e_aload rfl rfl ?_
  refine Eg.p1 rfl (by decide) (by decide) rfl (Nat.le_of_ble_eq_true rfl) (xrcv_of rfl hM.1 rfl) ((ms_isSeaV hM hv hw).mono (by decide)) ?_
  refine e_ifeq_b rfl (fun b4x => ?_) (fun b4x => ?_)
  · replace b4x := yn_0.mp b4x
    refine e_ipush rfl ?_
    exact Eg.ret rfl (by decide) rfl ⟨congrArg (fun q => some (Value.int q)) (qOrd_n (Or.inl (Decidable.not_not.mp b4x))).symm, I, rfl, fun _ _ _ _ => rfl⟩
  · replace b4x := yn_n0.mp b4x
    refine e_iload rfl rfl ?_
    refine e_i2l rfl ?_
    refine e_lpush rfl ?_
    refine e_lpush rfl ?_
    refine Eg.p3 rfl (by decide) (by decide) rfl (Nat.le_of_ble_eq_true rfl) (xrcv_ofs (Or.inl rfl)) ((ms_inv (x := kw) (y := 0) (z := 6) rfl rfl rfl).mono (by decide)) ?_
    refine e_ifne_b rfl (fun b16x => ?_) (fun b16x => ?_)
    · replace b16x := yn_n0.mp b16x
      refine e_aload rfl rfl ?_
      refine e_getR rfl hM.1 (show R 290 1 = some 291 from (hM.2 0 _ rfl).2) ?_
      refine e_ipush rfl ?_
      refine e_ialv (t := 12) (n := 14) rfl (show sh[291]? = some (20, 14) from (hM.2 0 _ rfl).1) rfl (by decide) (by decide) h12x ?_
      refine e_istore rfl ?_
      refine e_iload rfl rfl ?_
      refine e_iload rfl rfl ?_
      refine e_cle_b rfl (fun b31x => ?_) (fun b31x => ?_)
      · refine e_ipush rfl ?_
        refine e_istore rfl ?_
        refine e_ipush rfl ?_
        refine e_istore rfl ?_
        refine Eg.pk [0, 1, 2, 3, 4] [4, 3, 2, 0, 1] rfl (by decide) ?_
        rw [qOrd_a b4x b16x b31x]
        refine up_ind (p := fun k => Eg X xTc 1 298 42 [(0, .ref 290), (1, .int kw), (2, .int (nI (cn v 12))), (3, .int (nI (cn v 12 ^ k))), (4, .int (nI k))] [] (sh, I, L, R) (fun r h' => r = some (.int (aOrd v kw)) ∧ ∃ J : Nat → Nat → Int32, h' = (sh, J, L, R) ∧ ∀ i k, i ≠ 356 → i ≠ 357 → J i k = I i k)) (n := cn v 12) (j := 0) (fun k hk ih => ?_) ?_ (Nat.zero_le _)
        · refine e_iload rfl rfl ?_
          refine e_iload rfl rfl ?_
          refine e_cge_f rfl (nI_ge hk (by omega)) ?_
          refine e_iload rfl rfl ?_
          refine e_iload rfl rfl ?_
          refine e_imul rfl ?_
          rw [show (nI (cn v 12 ^ k)) * (nI (cn v 12)) = nI (cn v 12 ^ (k + 1)) from nI_times _ _]
          refine e_istore rfl ?_
          refine e_iinc rfl rfl ?_
          refine e_goto rfl ?_
          refine Eg.pk [0, 1, 2, 3, 4] [4, 3, 0, 1, 2] rfl (by decide) ?_
          rw [nI_1]
          exact ih
        · by_cases n0x : cn v 12 = 0
          · have kz : kw = 0 := by obtain ⟨t, lt, rfl⟩ := nI_of (x := kw) (fun q => b16x (Or.inl q)); have := (nI_lei lt (by omega)).mp b31x; rw [show t = 0 by omega]; rfl
            refine e_iload rfl rfl ?_
            refine e_iload rfl rfl ?_
            refine e_cge_t rfl (Int32.le_refl _) ?_
            refine e_iload rfl rfl ?_
            refine e_ifne_f rfl (by rw [n0x]; rfl) ?_
            refine e_ipush rfl ?_
            refine e_goto rfl ?_
            refine e_istore rfl ?_
            refine e_ipush rfl ?_
            refine e_istore rfl ?_
            refine e_iload rfl rfl ?_
            refine e_iload rfl rfl ?_
            refine e_cge_f rfl (nI_ge (a := 0) nn.1 (by omega)) ?_
            refine e_iload rfl rfl ?_
            refine e_ifle_t rfl (by rw [n0x]; decide) ?_
            refine e_iload rfl rfl ?_
            refine e_ifne_f rfl kz ?_
            refine e_iload rfl rfl ?_
            refine e_goto rfl ?_
            exact Eg.ret rfl (by decide) rfl ⟨congrArg (fun q => some (Value.int q)) (show (0 : Int32) = aOrd v kw from by unfold aOrd; rw [if_pos kz, oLA_f hN (by rw [n0x]; decide) (by rw [n0x]; decide)]; rfl), I, rfl, fun _ _ _ _ => rfl⟩
          · have h0x : 0 < cn v 12 := by omega
            have cb := fun c => cst_b hF hN h0x (c := c)
            refine e_iload rfl rfl ?_
            refine e_iload rfl rfl ?_
            refine e_cge_t rfl (Int32.le_refl _) ?_
            refine e_iload rfl rfl ?_
            refine e_ifne_t rfl (fun e => n0x ((nI_ij (b := 0) (by omega) (by decide)).mp e)) ?_
            refine e_ipush rfl ?_
            refine e_istore rfl ?_
            refine e_ipush rfl ?_
            refine e_istore rfl ?_
            refine Eg.pk [0, 1, 2, 3, 4, 5] [5, 4, 0, 1, 2, 3] rfl (by decide) ?_
            refine up_ind (p := fun j => ∀ (J : Nat → Nat → Int32) (o : Option Nat), obS v j o → (∀ b, o = some b → ∀ k, k < cn v 12 → J 357 k = nI (dgR (cn v 12) b k)) → (∀ i k, i ≠ 356 → i ≠ 357 → J i k = I i k) → Eg X xTc 1 298 72 [(0, .ref 290), (1, .int kw), (2, .int (nI (cn v 12))), (3, .int (nI (cn v 12 ^ cn v 12))), (4, .int (oV v o)), (5, .int (nI j))] [] (sh, J, L, R) (fun r h' => r = some (.int (aOrd v kw)) ∧ ∃ J : Nat → Nat → Int32, h' = (sh, J, L, R) ∧ ∀ i k, i ≠ 356 → i ≠ 357 → J i k = I i k)) (n := cn v 12 ^ cn v 12) (j := 0) (fun j hj ih J o k1x k2x k3x => ?_) (fun J o k1x k2x k3x => ?_) (Nat.zero_le _) I none obS_0 (fun b e => absurd e (by simp)) (fun _ _ _ _ => rfl)
            · have g12x : J 291 12 = nI (cn v 12) := (k3x _ _ (by decide) (by decide)).trans h12x
              have gfl : ∀ f t, 29 ≤ f ∧ f < 32 → t < cn v 12 → J (290 + f) t = nI (flN v f t) := fun f t q r => (k3x _ _ (by omega) (by omega)).trans (hfl f t q r)
              have cj := cb j
              rcases o with _ | b
              · skip
                refine e_iload rfl rfl ?_
                refine e_iload rfl rfl ?_
                refine e_cge_f rfl (nI_ge hj (by omega)) ?_
                refine e_iload rfl rfl ?_
                refine e_ifle_f rfl (fun q => absurd ((nI_le0 (by omega)).mp q) (by omega)) ?_
                refine e_aload rfl rfl ?_
                refine e_iload rfl rfl ?_
                refine Eg.c2 rfl (by decide) (by decide) rfl (Nat.le_of_ble_eq_true rfl) (xrcv_of rfl hM.1 rfl) ((ms_duesOf hM hN h0x hF g12x gfl hj).mono (by decide)) (fun r1x h1x hq => ?_)
                obtain ⟨rfl, J2x, rfl, d1x, d2x⟩ := hq
                by_cases ok : okN v j
                · have ea : ansD v j = nI (cstN v j) := if_pos ok
                  rw [ea]
                  refine e_istore rfl ?_
                  refine e_iload rfl rfl ?_
                  refine e_ipush rfl ?_
                  refine e_ceq_f rfl (nI_m1' (by omega)) ?_
                  refine e_iload rfl rfl ?_
                  refine e_ipush rfl ?_
                  refine e_ceq_t rfl rfl ?_
                  refine e_iload rfl rfl ?_
                  refine e_istore rfl ?_
                  refine e_aload rfl rfl ?_
                  refine e_getR rfl hM.1 (show R 290 82 = some 356 from (hM.2 65 _ rfl).2) ?_
                  refine e_aload rfl rfl ?_
                  refine e_getR rfl hM.1 (show R 290 83 = some 357 from (hM.2 66 _ rfl).2) ?_
                  refine Eg.c2 rfl (by decide) (by decide) rfl (Nat.le_of_ble_eq_true rfl) (xrcv_ofs (Or.inl rfl)) ((ms_copies (a := 356) (b := 357) (m := 6) (show sh[356]? = some (20, 6) from (hM.2 65 _ rfl).1) (show sh[357]? = some (20, 6) from (hM.2 66 _ rfl).1) (by decide) (by decide)).mono (by decide)) (fun r1x h1x hq => ?_)
                  obtain ⟨rfl, J3x, rfl, c1x, c2x⟩ := hq
                  refine e_iinc rfl rfl ?_
                  refine e_goto rfl ?_
                  refine Eg.pk [0, 1, 2, 3, 4, 5] [5, 4, 6, 0, 1, 2, 3] rfl (by decide) ?_
                  rw [nI_1]
                  exact ih J3x (some j) (obS_n k1x ok) (fun b' e k q => by rw [← Option.some.inj e, c1x k (by omega)]; exact d1x k q) (fun i k q1x q2x => (c2x i k (Or.inl q2x)).trans ((d2x i k q1x).trans (k3x i k q1x q2x)))
                · have ea : ansD v j = -1 := if_neg ok
                  rw [ea]
                  refine e_istore rfl ?_
                  refine e_iload rfl rfl ?_
                  refine e_ipush rfl ?_
                  refine e_ceq_t rfl rfl ?_
                  refine e_iinc rfl rfl ?_
                  refine e_goto rfl ?_
                  refine Eg.pk [0, 1, 2, 3, 4, 5] [5, 6, 0, 1, 2, 3, 4] rfl (by decide) ?_
                  rw [nI_1]
                  exact ih J2x none (obS_no k1x ok) (fun b' e => absurd e (by simp)) (fun i k q1x q2x => (d2x i k q1x).trans (k3x i k q1x q2x))
              · have cbb := cb b
                refine e_iload rfl rfl ?_
                refine e_iload rfl rfl ?_
                refine e_cge_f rfl (nI_ge hj (by omega)) ?_
                refine e_iload rfl rfl ?_
                refine e_ifle_f rfl (fun q => absurd ((nI_le0 (by omega)).mp q) (by omega)) ?_
                refine e_aload rfl rfl ?_
                refine e_iload rfl rfl ?_
                refine Eg.c2 rfl (by decide) (by decide) rfl (Nat.le_of_ble_eq_true rfl) (xrcv_of rfl hM.1 rfl) ((ms_duesOf hM hN h0x hF g12x gfl hj).mono (by decide)) (fun r1x h1x hq => ?_)
                obtain ⟨rfl, J2x, rfl, d1x, d2x⟩ := hq
                by_cases ok : okN v j
                · have ea : ansD v j = nI (cstN v j) := if_pos ok
                  rw [ea]
                  refine e_istore rfl ?_
                  refine e_iload rfl rfl ?_
                  refine e_ipush rfl ?_
                  refine e_ceq_f rfl (nI_m1' (by omega)) ?_
                  refine e_iload rfl rfl ?_
                  refine e_ipush rfl ?_
                  refine e_ceq_f rfl (nI_m1' (q := cstN v b) (by omega)) ?_
                  refine e_iload rfl rfl ?_
                  refine e_iload rfl rfl ?_
                  refine e_cge_b rfl (fun b106x => ?_) (fun b106x => ?_)
                  · refine e_iinc rfl rfl ?_
                    refine e_goto rfl ?_
                    refine Eg.pk [0, 1, 2, 3, 4, 5] [5, 6, 0, 1, 2, 3, 4] rfl (by decide) ?_
                    rw [nI_1]
                    exact ih J2x (some b) (obS_ge k1x (fun q => absurd ((nI_lei (by omega) (by omega)).mp b106x) (by omega))) (fun b' e k q => (d2x 357 k (by decide)).trans (k2x b' e k q)) (fun i k q1x q2x => (d2x i k q1x).trans (k3x i k q1x q2x))
                  · refine e_iload rfl rfl ?_
                    refine e_istore rfl ?_
                    refine e_aload rfl rfl ?_
                    refine e_getR rfl hM.1 (show R 290 82 = some 356 from (hM.2 65 _ rfl).2) ?_
                    refine e_aload rfl rfl ?_
                    refine e_getR rfl hM.1 (show R 290 83 = some 357 from (hM.2 66 _ rfl).2) ?_
                    refine Eg.c2 rfl (by decide) (by decide) rfl (Nat.le_of_ble_eq_true rfl) (xrcv_ofs (Or.inl rfl)) ((ms_copies (a := 356) (b := 357) (m := 6) (show sh[356]? = some (20, 6) from (hM.2 65 _ rfl).1) (show sh[357]? = some (20, 6) from (hM.2 66 _ rfl).1) (by decide) (by decide)).mono (by decide)) (fun r1x h1x hq => ?_)
                    obtain ⟨rfl, J3x, rfl, c1x, c2x⟩ := hq
                    refine e_iinc rfl rfl ?_
                    refine e_goto rfl ?_
                    refine Eg.pk [0, 1, 2, 3, 4, 5] [5, 4, 6, 0, 1, 2, 3] rfl (by decide) ?_
                    rw [nI_1]
                    exact ih J3x (some j) (obS_lt k1x ok (Decidable.byContradiction (fun q => b106x ((nI_lei (by omega) (by omega)).mpr (by omega))))) (fun b' e k q => by rw [← Option.some.inj e, c1x k (by omega)]; exact d1x k q) (fun i k q1x q2x => (c2x i k (Or.inl q2x)).trans ((d2x i k q1x).trans (k3x i k q1x q2x)))
                · have ea : ansD v j = -1 := if_neg ok
                  rw [ea]
                  refine e_istore rfl ?_
                  refine e_iload rfl rfl ?_
                  refine e_ipush rfl ?_
                  refine e_ceq_t rfl rfl ?_
                  refine e_iinc rfl rfl ?_
                  refine e_goto rfl ?_
                  refine Eg.pk [0, 1, 2, 3, 4, 5] [5, 6, 0, 1, 2, 3, 4] rfl (by decide) ?_
                  rw [nI_1]
                  exact ih J2x (some b) (obS_no k1x ok) (fun b' e k q => (d2x 357 k (by decide)).trans (k2x b' e k q)) (fun i k q1x q2x => (d2x i k q1x).trans (k3x i k q1x q2x))
            · obtain ⟨b, rfl, e1x, e2x⟩ := obS_end hF hN h0x k1x
              refine e_iload rfl rfl ?_
              refine e_iload rfl rfl ?_
              refine e_cge_t rfl (Int32.le_refl _) ?_
              refine e_iload rfl rfl ?_
              refine e_ifne_b rfl (fun b131x => ?_) (fun b131x => ?_)
              · obtain ⟨p, hp, ek, ep⟩ := ord_k b16x b31x hN b131x
                refine e_aload rfl rfl ?_
                refine e_getR rfl hM.1 (show R 290 83 = some 357 from (hM.2 66 _ rfl).2) ?_
                subst ek
                refine e_iload rfl rfl ?_
                refine e_ipush rfl ?_
                refine e_isub rfl ?_
                rw [show (nI (p + 1)) - (1 : Int32) = nI p from nI_sub (a := p + 1) (b := 1) (by omega)]
                refine e_ialv (t := p) (n := 6) rfl (show sh[357]? = some (20, 6) from (hM.2 66 _ rfl).1) rfl (by omega) (by decide) (k2x b rfl p hp) ?_
                exact Eg.ret rfl (by decide) rfl ⟨congrArg (fun q => some (Value.int q)) ((congrArg nI (e2x p hp)).trans ep.symm), J, rfl, k3x⟩
              · refine e_iload rfl rfl ?_
                refine e_goto rfl ?_
                exact Eg.ret rfl (by decide) rfl ⟨congrArg (fun q => some (Value.int q)) (show nI (cstN v b) = aOrd v kw from by unfold aOrd; rw [if_pos b131x, e1x]), J, rfl, k3x⟩
      · refine e_ipush rfl ?_
        exact Eg.ret rfl (by decide) rfl ⟨congrArg (fun q => some (Value.int q)) (qOrd_2 b4x b16x b31x).symm, I, rfl, fun _ _ _ _ => rfl⟩
    · replace b16x := yn_0.mp b16x
      refine e_ipush rfl ?_
      exact Eg.ret rfl (by decide) rfl ⟨congrArg (fun q => some (Value.int q)) (qOrd_n (Or.inr (Decidable.not_not.mp b16x))).symm, I, rfl, fun _ _ _ _ => rfl⟩
end OM
