/-! a DAY by a rule, the other side; run, both sides -/
section EV6x
variable {X : xX} {h : xH} {sh : List (Nat × Nat)} {I : Nat → Nat → Int32} {L : Nat → Nat → Int64} {R : Nat → Nat → Option Nat} {B : Nat → Nat} {n ri p : Nat} {st : rS}
variable {ru m s w : Nat} {v : Nat → Nat → Int32} {W : Nat → Int64} {cd : List (Nat × Nat)} {cl : List (Nat × Nat × Nat)}
theorem ms_dayBy (hM : MW sh R) (hri : ri < 6) (hmu : MuV I ri cd cl) (hok : ruOK cd cl) (h61x : I 340 ri = nI cl.length) (hv : mV I v) (hw : Wf v) : Ec X 7 263 [.ref 290, .int (nI ri)] (sh, I, L, R) (fun r h' => r = none ∧ ∃ (J : Nat → Nat → Int32) (M : Nat → Nat → Int64), h' = (sh, J, M, R) ∧ mV J (rday v cd cl) ∧ (∀ k, k < cn v 4 → J 309 k = 0) ∧ (∀ k, cn v 4 ≤ k → J 309 k = I 309 k) ∧ (∀ i x, i < 291 ∨ 321 < i → J i x = I i x) ∧ ∀ p q, p ≠ 346 → p ≠ 347 → M p q = L p q) := by
  have h44x := hw.1.2.2.2.2.2.1
  refine Ec.of (Nat.le_of_ble_eq_true rfl) ?_
  refine e_ipush rfl ?_
  refine e_istore rfl ?_
  refine Eg.pk [0, 1, 2] [2, 0, 1] rfl (by decide) ?_
  refine up_ind (p := fun j => ∀ (J : Nat → Nat → Int32) (M : Nat → Nat → Int64), mV J (rdA v cd cl j).1 → (∀ k, k < j → J 309 k = (rdA v cd cl j).2 k) → (∀ k, cn v 4 ≤ k → J 309 k = I 309 k) → (∀ i x, i < 291 ∨ 321 < i → J i x = I i x) → (∀ p q, p ≠ 346 → p ≠ 347 → M p q = L p q) → Eg X xTc 6 263 2 [(0, .ref 290), (1, .int (nI ri)), (2, .int (nI j))] [] (sh, J, M, R) (fun r h' => r = none ∧ ∃ (J : Nat → Nat → Int32) (M : Nat → Nat → Int64), h' = (sh, J, M, R) ∧ mV J (rday v cd cl) ∧ (∀ k, k < cn v 4 → J 309 k = 0) ∧ (∀ k, cn v 4 ≤ k → J 309 k = I 309 k) ∧ (∀ i x, i < 291 ∨ 321 < i → J i x = I i x) ∧ ∀ p q, p ≠ 346 → p ≠ 347 → M p q = L p q)) (n := cn v 4) (j := 0) (fun j hj ih J M z1x z2x z3x z4x z5x => ?_) (fun J M z1x z2x z3x z4x z5x => ?_) (Nat.zero_le _) I L hv (fun k q => absurd q (Nat.not_lt_zero _)) (fun _ _ => rfl) (fun _ _ _ => rfl) (fun _ _ _ _ => rfl)
  · obtain ⟨a1x, a2x, a3x, a4x, a5x⟩ := rdA_ok (cd := cd) (cl := cl) hw j (by omega)
    change ∀ (J : Nat → Nat → Int32) (M : Nat → Nat → Int64), mV J (rds cd cl j (rdA v cd cl j)).1 → (∀ k, k < j + 1 → J 309 k = (rds cd cl j (rdA v cd cl j)).2 k) → _ at ih
    generalize (rdA v cd cl j) = z at z1x z2x a1x a2x a3x a4x a5x ih
    have c4x : cn z.1 4 = cn v 4 := wf_same a3x 4
    have s4x : J 291 4 = nI (cn v 4) := by have := z1x.n a2x (j := 4) (by decide); rw [c4x] at this; exact this
    refine e_iload rfl rfl ?_
    refine e_aload rfl rfl ?_
    refine e_getR rfl hM.1 (show R 290 1 = some 291 from (hM.2 0 _ rfl).2) ?_
    refine e_ipush rfl ?_
    refine e_ialv (t := 4) (n := 14) rfl (show sh[291]? = some (20, 14) from (hM.2 0 _ rfl).1) rfl (by decide) (by decide) s4x ?_
    refine e_cge_f rfl (nI_ge hj (by omega)) ?_
    refine e_aload rfl rfl ?_
    refine e_getR rfl hM.1 (show R 290 19 = some 309 from (hM.2 18 _ rfl).2) ?_
    refine e_iload rfl rfl ?_
    refine e_ipush rfl ?_
    refine e_iasJ (t := j) (n := 4) rfl (show sh[309]? = some (20, 4) from (hM.2 18 _ rfl).1) rfl (by omega) (by decide) (fun J1x g1x f1x => ?_)
    refine e_aload rfl rfl ?_
    refine e_getR rfl hM.1 (show R 290 18 = some 308 from (hM.2 17 _ rfl).2) ?_
    refine e_iload rfl rfl ?_
    refine e_ialv (t := j) (n := 4) rfl (show sh[308]? = some (20, 4) from (hM.2 17 _ rfl).1) rfl (by omega) (by decide) ((f1x 308 j (Or.inl (by omega))).trans (z1x 18 j (by decide))) ?_
    refine e_ipush rfl ?_
    refine e_cne_b rfl (fun b26x => ?_) (fun b26x => ?_)
    · refine e_iinc rfl rfl ?_
      refine e_goto rfl ?_
      refine Eg.pk [0, 1, 2] [2, 0, 1] rfl (by decide) ?_
      rw [nI_1]
      have er : rds cd cl j z = (z.1, upI z.2 j 0) := if_neg b26x
      rw [er] at ih
      refine ih J1x M (z1x.fr (fun i x q1x q2x q3x => f1x i x (by omega))) (fun k q => ?_) (fun k q => (f1x 309 k (by omega)).trans (z3x k q)) (fun i x q => (f1x i x (by omega)).trans (z4x i x q)) z5x
      show J1x 309 k = upI z.2 j 0 k
      by_cases e : k = j
      · rw [e, upI_at]; exact g1x
      · rw [upI_o e, f1x 309 k (Or.inr e)]; exact z2x k (by omega)
    · have v1x : mV J1x z.1 := z1x.fr (fun i x q1x q2x q3x => f1x i x (by omega))
      have w3x : Wf (rfil z.1 cd cl j) := rfil_wf a2x (by omega)
      have c43x : cn (rfil z.1 cd cl j) 4 = cn v 4 := (wf_same (fun f i q => rfil_o q) 4).trans c4x
      have er : rds cd cl j z = ((rfil z.1 cd cl j), upI z.2 j (wayG (rfil z.1 cd cl j) j (goL (ask (rfil z.1 cd cl j) j) cd cl))) := if_pos b26x
      rw [er] at ih
      have k68x : ∀ (J2x : Nat → Nat → Int32) (M2x : Nat → Nat → Int64), mV J2x (rfil z.1 cd cl j) → (∀ i x, i ≠ 304 → i ≠ 307 → J2x i x = J1x i x) → (∀ t, t < 11 → M2x 346 t = ask (rfil z.1 cd cl j) j t) → (∀ p q, p ≠ 346 → p ≠ 347 → M2x p q = L p q) → Eg X xTc 6 263 68 [(0, .ref 290), (1, .int (nI ri)), (2, .int (nI j))] [] (sh, J2x, M2x, R) (fun r h' => r = none ∧ ∃ (J : Nat → Nat → Int32) (M : Nat → Nat → Int64), h' = (sh, J, M, R) ∧ mV J (rday v cd cl) ∧ (∀ k, k < cn v 4 → J 309 k = 0) ∧ (∀ k, cn v 4 ≤ k → J 309 k = I 309 k) ∧ (∀ i x, i < 291 ∨ 321 < i → J i x = I i x) ∧ ∀ p q, p ≠ 346 → p ≠ 347 → M p q = L p q) := by
        intro J2x M2x y1x y2x y3x y4x
        have y5x : ∀ i x, i < 291 ∨ 321 < i → J2x i x = I i x := fun i x q => (y2x i x (by omega) (by omega)).trans ((f1x i x (by omega)).trans (z4x i x q))
        have mu2x : MuV J2x ri cd cl := hmu.fr (fun i x q => y5x i x (by omega))
        have h612x : J2x 340 ri = nI cl.length := (y5x 340 ri (by omega)).trans h61x
        refine e_aload rfl rfl ?_
        refine e_iload rfl rfl ?_
        refine Eg.c2 rfl (by decide) (by decide) rfl (Nat.le_of_ble_eq_true rfl) (xrcv_of rfl hM.1 rfl) ((ms_goBy hM hri mu2x hok h612x y3x).mono (by decide)) (fun r1x h1x hq => ?_)
        obtain ⟨rfl, M3x, rfl, x1x⟩ := hq
        refine e_lstore rfl ?_
        refine e_aload rfl rfl ?_
        refine e_getR rfl hM.1 (show R 290 19 = some 309 from (hM.2 18 _ rfl).2) ?_
        refine e_iload rfl rfl ?_
        refine e_lload rfl rfl ?_
        refine e_lpush rfl ?_
        refine e_lcmp rfl ?_
        refine e_ifeq_b rfl (fun b84x => ?_) (fun b84x => ?_)
        · refine e_aload rfl rfl ?_
          refine e_iload rfl rfl ?_
          refine e_aload rfl rfl ?_
          refine e_getR rfl hM.1 (show R 290 13 = some 303 from (hM.2 12 _ rfl).2) ?_
          refine e_iload rfl rfl ?_
          refine e_ialv (t := j) (n := 4) rfl (show sh[303]? = some (20, 4) from (hM.2 12 _ rfl).1) rfl (by omega) (by decide) (y1x 13 j (by decide)) ?_
          refine e_lload rfl rfl ?_
          refine e_l2i rfl ?_
          refine e_iadd rfl ?_
          refine Eg.p3 rfl (by decide) (by decide) rfl (Nat.le_of_ble_eq_true rfl) (xrcv_of rfl hM.1 rfl) ((ms_canGo hM y1x w3x (k := j) (by omega)).mono (by decide)) ?_
          refine e_ifeq_b rfl (fun b111x => ?_) (fun b111x => ?_)
          · refine e_ipush rfl ?_
            refine e_iasJ (t := j) (n := 4) rfl (show sh[309]? = some (20, 4) from (hM.2 18 _ rfl).1) rfl (by omega) (by decide) (fun J31x g31x f31x => ?_)
            refine e_iinc rfl rfl ?_
            refine e_goto rfl ?_
            refine Eg.pk [0, 1, 2] [2, 4, 0, 1] rfl (by decide) ?_
            rw [nI_1]
            refine ih J31x M3x (y1x.fr (fun i x q1x q2x q3x => f31x i x (by omega))) (fun k q => ?_) (fun k q => (f31x 309 k (by omega)).trans ((y2x 309 k (by decide) (by decide)).trans ((f1x 309 k (by omega)).trans (z3x k q)))) (fun i x q => (f31x i x (by omega)).trans (y5x i x q)) (fun p q r1x r2x => (x1x p q r2x).trans (y4x p q r1x r2x))
            show J31x 309 k = upI z.2 j _ k
            by_cases e : k = j
            · rw [e, upI_at]; exact g31x.trans (show _ = wayG (rfil z.1 cd cl j) j (goL (ask (rfil z.1 cd cl j) j) cd cl) from (if_neg (fun q => yn_0.mp b111x q.2)).symm)
            · rw [upI_o e, f31x 309 k (Or.inr e), y2x 309 k (by decide) (by decide), f1x 309 k (Or.inr e)]; exact z2x k (by omega)
          · refine e_lload rfl rfl ?_
            refine e_l2i rfl ?_
            refine e_goto rfl ?_
            refine e_iasJ (t := j) (n := 4) rfl (show sh[309]? = some (20, 4) from (hM.2 18 _ rfl).1) rfl (by omega) (by decide) (fun J32x g32x f32x => ?_)
            refine e_iinc rfl rfl ?_
            refine e_goto rfl ?_
            refine Eg.pk [0, 1, 2] [2, 4, 0, 1] rfl (by decide) ?_
            rw [nI_1]
            refine ih J32x M3x (y1x.fr (fun i x q1x q2x q3x => f32x i x (by omega))) (fun k q => ?_) (fun k q => (f32x 309 k (by omega)).trans ((y2x 309 k (by decide) (by decide)).trans ((f1x 309 k (by omega)).trans (z3x k q)))) (fun i x q => (f32x i x (by omega)).trans (y5x i x q)) (fun p q r1x r2x => (x1x p q r2x).trans (y4x p q r1x r2x))
            show J32x 309 k = upI z.2 j _ k
            by_cases e : k = j
            · rw [e, upI_at]; exact g32x.trans (show _ = wayG (rfil z.1 cd cl j) j (goL (ask (rfil z.1 cd cl j) j) cd cl) from (if_pos ⟨(Or.inl (lg_eq0.mp b84x)), yn_n0.mp b111x⟩).symm)
            · rw [upI_o e, f32x 309 k (Or.inr e), y2x 309 k (by decide) (by decide), f1x 309 k (Or.inr e)]; exact z2x k (by omega)
        · refine e_lload rfl rfl ?_
          refine e_lpush rfl ?_
          refine e_lcmp rfl ?_
          refine e_ifne_b rfl (fun b93x => ?_) (fun b93x => ?_)
          · refine e_ipush rfl ?_
            refine e_iasJ (t := j) (n := 4) rfl (show sh[309]? = some (20, 4) from (hM.2 18 _ rfl).1) rfl (by omega) (by decide) (fun J33x g33x f33x => ?_)
            refine e_iinc rfl rfl ?_
            refine e_goto rfl ?_
            refine Eg.pk [0, 1, 2] [2, 4, 0, 1] rfl (by decide) ?_
            rw [nI_1]
            refine ih J33x M3x (y1x.fr (fun i x q1x q2x q3x => f33x i x (by omega))) (fun k q => ?_) (fun k q => (f33x 309 k (by omega)).trans ((y2x 309 k (by decide) (by decide)).trans ((f1x 309 k (by omega)).trans (z3x k q)))) (fun i x q => (f33x i x (by omega)).trans (y5x i x q)) (fun p q r1x r2x => (x1x p q r2x).trans (y4x p q r1x r2x))
            show J33x 309 k = upI z.2 j _ k
            by_cases e : k = j
            · rw [e, upI_at]; exact g33x.trans (show _ = wayG (rfil z.1 cd cl j) j (goL (ask (rfil z.1 cd cl j) j) cd cl) from (if_neg (fun q => q.1.elim (fun r => b84x (lg_eq0.mpr r)) (fun r => b93x (lg_eq0.mpr r)))).symm)
            · rw [upI_o e, f33x 309 k (Or.inr e), y2x 309 k (by decide) (by decide), f1x 309 k (Or.inr e)]; exact z2x k (by omega)
          · refine e_aload rfl rfl ?_
            refine e_iload rfl rfl ?_
            refine e_aload rfl rfl ?_
            refine e_getR rfl hM.1 (show R 290 13 = some 303 from (hM.2 12 _ rfl).2) ?_
            refine e_iload rfl rfl ?_
            refine e_ialv (t := j) (n := 4) rfl (show sh[303]? = some (20, 4) from (hM.2 12 _ rfl).1) rfl (by omega) (by decide) (y1x 13 j (by decide)) ?_
            refine e_lload rfl rfl ?_
            refine e_l2i rfl ?_
            refine e_iadd rfl ?_
            refine Eg.p3 rfl (by decide) (by decide) rfl (Nat.le_of_ble_eq_true rfl) (xrcv_of rfl hM.1 rfl) ((ms_canGo hM y1x w3x (k := j) (by omega)).mono (by decide)) ?_
            refine e_ifeq_b rfl (fun b111x => ?_) (fun b111x => ?_)
            · refine e_ipush rfl ?_
              refine e_iasJ (t := j) (n := 4) rfl (show sh[309]? = some (20, 4) from (hM.2 18 _ rfl).1) rfl (by omega) (by decide) (fun J34x g34x f34x => ?_)
              refine e_iinc rfl rfl ?_
              refine e_goto rfl ?_
              refine Eg.pk [0, 1, 2] [2, 4, 0, 1] rfl (by decide) ?_
              rw [nI_1]
              refine ih J34x M3x (y1x.fr (fun i x q1x q2x q3x => f34x i x (by omega))) (fun k q => ?_) (fun k q => (f34x 309 k (by omega)).trans ((y2x 309 k (by decide) (by decide)).trans ((f1x 309 k (by omega)).trans (z3x k q)))) (fun i x q => (f34x i x (by omega)).trans (y5x i x q)) (fun p q r1x r2x => (x1x p q r2x).trans (y4x p q r1x r2x))
              show J34x 309 k = upI z.2 j _ k
              by_cases e : k = j
              · rw [e, upI_at]; exact g34x.trans (show _ = wayG (rfil z.1 cd cl j) j (goL (ask (rfil z.1 cd cl j) j) cd cl) from (if_neg (fun q => yn_0.mp b111x q.2)).symm)
              · rw [upI_o e, f34x 309 k (Or.inr e), y2x 309 k (by decide) (by decide), f1x 309 k (Or.inr e)]; exact z2x k (by omega)
            · refine e_lload rfl rfl ?_
              refine e_l2i rfl ?_
              refine e_goto rfl ?_
              refine e_iasJ (t := j) (n := 4) rfl (show sh[309]? = some (20, 4) from (hM.2 18 _ rfl).1) rfl (by omega) (by decide) (fun J35x g35x f35x => ?_)
              refine e_iinc rfl rfl ?_
              refine e_goto rfl ?_
              refine Eg.pk [0, 1, 2] [2, 4, 0, 1] rfl (by decide) ?_
              rw [nI_1]
              refine ih J35x M3x (y1x.fr (fun i x q1x q2x q3x => f35x i x (by omega))) (fun k q => ?_) (fun k q => (f35x 309 k (by omega)).trans ((y2x 309 k (by decide) (by decide)).trans ((f1x 309 k (by omega)).trans (z3x k q)))) (fun i x q => (f35x i x (by omega)).trans (y5x i x q)) (fun p q r1x r2x => (x1x p q r2x).trans (y4x p q r1x r2x))
              show J35x 309 k = upI z.2 j _ k
              by_cases e : k = j
              · rw [e, upI_at]; exact g35x.trans (show _ = wayG (rfil z.1 cd cl j) j (goL (ask (rfil z.1 cd cl j) j) cd cl) from (if_pos ⟨(Or.inr (lg_eq0.mp b93x)), yn_n0.mp b111x⟩).symm)
              · rw [upI_o e, f35x 309 k (Or.inr e), y2x 309 k (by decide) (by decide), f1x 309 k (Or.inr e)]; exact z2x k (by omega)
      refine e_aload rfl rfl ?_
      refine e_iload rfl rfl ?_
      refine Eg.c2 rfl (by decide) (by decide) rfl (Nat.le_of_ble_eq_true rfl) (xrcv_of rfl hM.1 rfl) ((ms_asks hM v1x a2x (k := j) (by omega)).mono (by decide)) (fun r1x h1x hq => ?_)
      obtain ⟨rfl, M2x, rfl, t1x, t2x⟩ := hq
      have mu1x : MuV J1x ri cd cl := hmu.fr (fun i x q => (f1x i x (by omega)).trans (z4x i x (by omega)))
      have h611x : J1x 340 ri = nI cl.length := (f1x 340 ri (by omega)).trans ((z4x 340 ri (by omega)).trans h61x)
      refine e_aload rfl rfl ?_
      refine e_iload rfl rfl ?_
      refine Eg.c2 rfl (by decide) (by decide) rfl (Nat.le_of_ble_eq_true rfl) (xrcv_of rfl hM.1 rfl) ((ms_fillsBy hM hri mu1x hok h611x t1x).mono (by decide)) (fun r1x h1x hq => ?_)
      obtain ⟨rfl, M3x, rfl, x1x⟩ := hq
      have m3f : ∀ p q, p ≠ 346 → p ≠ 347 → M3x p q = L p q := fun p q r1x r2x => (x1x p q r2x).trans ((t2x p q r1x).trans (z5x p q r1x r2x))
      refine e_ifeq_b rfl (fun b39x => ?_) (fun b39x => ?_)
      · refine e_ipush rfl ?_
        refine e_istore rfl ?_
        refine e_iload rfl rfl ?_
        refine e_ipush rfl ?_
        refine e_ceq_t rfl rfl ?_
        refine Eg.pk [0, 1, 2] [3, 0, 1, 2] rfl (by decide) ?_
        have ef : rfil z.1 cd cl j = z.1 := if_neg (fun q => yn_0.mp b39x q.1)
        exact k68x J1x M3x (by rw [ef]; exact v1x) (fun _ _ _ _ => rfl) (fun t q => by rw [ef]; exact (x1x 346 t (by decide)).trans (t1x t q)) m3f
      · refine e_aload rfl rfl ?_
        refine e_iload rfl rfl ?_
        refine Eg.p2 rfl (by decide) (by decide) rfl (Nat.le_of_ble_eq_true rfl) (xrcv_of rfl hM.1 rfl) ((ms_fillCost hM v1x a2x (k := j) (by omega)).mono (by decide)) ?_
        refine e_goto rfl ?_
        refine e_istore rfl ?_
        refine e_iload rfl rfl ?_
        refine e_ipush rfl ?_
        refine e_ceq_b rfl (fun b54x => ?_) (fun b54x => ?_)
        · refine Eg.pk [0, 1, 2] [3, 0, 1, 2] rfl (by decide) ?_
          have ef : rfil z.1 cd cl j = z.1 := if_neg (fun q => by
              rw [if_pos (⟨b26x, q.2⟩ : z.1 18 j = -1 ∧ ¬ wlo z.1 (z.1 13 j).toNatClampNeg (nI (cn z.1 7)) = -1)] at b54x
              obtain ⟨qq, q1x, q2x⟩ := fCost_nI a2x (k := j) (by omega) q.2
              rw [q2x] at b54x
              exact nI_m1' (by omega) b54x)
          exact k68x J1x M3x (by rw [ef]; exact v1x) (fun _ _ _ _ => rfl) (fun t q => by rw [ef]; exact (x1x 346 t (by decide)).trans (t1x t q)) m3f
        · have cc : z.1 18 j = -1 ∧ ¬ wlo z.1 (z.1 13 j).toNatClampNeg (nI (cn z.1 7)) = -1 := Decidable.byContradiction (fun q => b54x (if_neg q))
          have ec : (if z.1 18 j = -1 ∧ ¬ wlo z.1 (z.1 13 j).toNatClampNeg (nI (cn z.1 7)) = -1 then fCost z.1 j else -1) = fCost z.1 j := if_pos cc
          rw [ec]
          have ef : rfil z.1 cd cl j = filF z.1 j (fCost z.1 j) := if_pos ⟨yn_n0.mp b39x, cc.2⟩
          refine e_aload rfl rfl ?_
          refine e_iload rfl rfl ?_
          refine e_iload rfl rfl ?_
          refine Eg.c3 rfl (by decide) (by decide) rfl (Nat.le_of_ble_eq_true rfl) (xrcv_of rfl hM.1 rfl) ((ms_fills hM v1x (k := j) (by omega)).mono (by decide)) (fun r1x h1x hq => ?_)
          obtain ⟨rfl, J2x, rfl, u1x, u2x⟩ := hq
          have w4x : Wf (filF z.1 j (fCost z.1 j)) := filF_wf a2x (by omega)
          have c44x : cn (filF z.1 j (fCost z.1 j)) 4 = cn v 4 := (wf_same (fun f i q => ex_fill q) 4).trans c4x
          refine e_aload rfl rfl ?_
          refine e_iload rfl rfl ?_
          refine Eg.c2 rfl (by decide) (by decide) rfl (Nat.le_of_ble_eq_true rfl) (xrcv_of rfl hM.1 rfl) ((ms_asks hM u1x w4x (k := j) (by rw [c44x]; omega)).mono (by decide)) (fun r1x h1x hq => ?_)
          obtain ⟨rfl, M4x, rfl, t3x, t4x⟩ := hq
          refine Eg.pk [0, 1, 2] [3, 0, 1, 2] rfl (by decide) ?_
          exact k68x J2x M4x (by rw [ef]; exact u1x) u2x (fun t q => by rw [ef]; exact t3x t q) (fun p q r1x r2x => (t4x p q r1x).trans (m3f p q r1x r2x))
  · obtain ⟨a1x, a2x, a3x, a4x, a5x⟩ := rdA_ok (cd := cd) (cl := cl) hw (cn v 4) (Nat.le_refl _)
    have c4x : cn (rdA v cd cl (cn v 4)).1 4 = cn v 4 := wf_same a3x 4
    have s4x : J 291 4 = nI (cn v 4) := by have := z1x.n a2x (j := 4) (by decide); rw [c4x] at this; exact this
    refine e_iload rfl rfl ?_
    refine e_aload rfl rfl ?_
    refine e_getR rfl hM.1 (show R 290 1 = some 291 from (hM.2 0 _ rfl).2) ?_
    refine e_ipush rfl ?_
    refine e_ialv (t := 4) (n := 14) rfl (show sh[291]? = some (20, 14) from (hM.2 0 _ rfl).1) rfl (by decide) (by decide) s4x ?_
    refine e_cge_t rfl (Int32.le_refl _) ?_
    refine e_aload rfl rfl ?_
    refine Eg.c1 rfl (by decide) (by decide) rfl (Nat.le_of_ble_eq_true rfl) (xrcv_of rfl hM.1 rfl) ((ms_day hM z1x (by omega) (a2x.n (by decide)) (a2x.n (by decide)) (fun k q => by obtain ⟨c, t, _, _, e, l⟩ := a2x.ships k q; obtain ⟨c0x, w0x, m0x, b0x, _, _, _, _, y3x, _, y5x, _⟩ := a2x.2.2.2.2 k q; exact ⟨t, by have := l m0x y5x y3x; omega, e⟩) (fun k q => z2x k (by omega))).mono (by decide)) (fun r1x h1x hq => ?_)
    obtain ⟨rfl, J5x, rfl, y1x, y2x, y3x, y4x⟩ := hq
    rw [c4x] at y2x y3x
    exact Eg.ret rfl (by decide) rfl ⟨rfl, J5x, M, rfl, y1x, y2x, fun k q => (y3x k q).trans (z3x k q), fun i x q => (y4x i x q).trans (z4x i x q), z5x⟩
end EV6x
