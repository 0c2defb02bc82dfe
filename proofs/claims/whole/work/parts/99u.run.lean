/-! run, both sides -/
section RN
variable {X : xX} {h : xH} {sh : List (Nat × Nat)} {I : Nat → Nat → Int32} {L : Nat → Nat → Int64} {R : Nat → Nat → Option Nat} {B : Nat → Nat} {n ri p : Nat} {st : rS}
variable {m s w rc : Nat} {v : Nat → Nat → Int32} {cds : Nat → List (Nat × Nat)} {cls : Nat → List (Nat × Nat × Nat)} {cd : List (Nat × Nat)} {cl : List (Nat × Nat × Nat)}
/-- the rules, the one side's -/
def RulC (sh : List (Nat × Nat)) (I : Nat → Nat → Int32) (R : Nat → Nat → Option Nat) (rc : Nat) (cds : Nat → List (Nat × Nat)) (cls : Nat → List (Nat × Nat × Nat)) : Prop := sh[8]? = some (24, 6) ∧ R 0 3 = some 8 ∧ I 0 4 = nI rc ∧ rc ≤ 6 ∧ (∀ r, r < 6 → R 8 r = some (260 + 5 * r) ∧ RuAt sh R (260 + 5 * r)) ∧ ∀ r, r < rc → RuV I (260 + 5 * r) (cds r) (cls r) ∧ ruOK (cds r) (cls r)
def RulM (I : Nat → Nat → Int32) (rc : Nat) (cds : Nat → List (Nat × Nat)) (cls : Nat → List (Nat × Nat × Nat)) : Prop := I 290 51 = nI rc ∧ rc ≤ 6 ∧ ∀ r, r < rc → MuV I r (cds r) (cls r) ∧ ruOK (cds r) (cls r) ∧ I 340 r = nI (cls r).length
def runF (v : Nat → Nat → Int32) (cd : List (Nat × Nat)) (cl : List (Nat × Nat × Nat)) : Nat → Nat → Nat → Int32 := itN (fun _ V => rday V cd cl) v
theorem runF_ok (hw : Wf v) : ∀ n, cn v 7 + n ≤ 20000 → Wf (runF v cd cl n) ∧ agr (runF v cd cl n) v ∧ cn (runF v cd cl n) 7 = cn v 7 + n := by
  intro n
  induction n with
  | zero => intro _; exact ⟨hw, fun _ _ _ => rfl, rfl⟩
  | succ n ih =>
    intro hn
    obtain ⟨a1x, a2x, a3x⟩ := ih (by omega)
    show Wf (rday (runF v cd cl n) cd cl) ∧ agr (rday (runF v cd cl n) cd cl) v ∧ cn (rday (runF v cd cl n) cd cl) 7 = cn v 7 + (n + 1)
    exact ⟨rday_wf a1x (by omega), fun f i q => (rday_agr a1x f i q).trans (a2x f i q), by rw [rday_7 a1x, a3x]; omega⟩
def gRun (v : Nat → Nat → Int32) (rc : Nat) (x y : Int32) : Prop := ¬ cn v 0 = 0 ∧ ¬ (x < 0 ∨ nI rc ≤ x) ∧ ¬ (y < 1 ∨ 100 < y) ∧ nI (cn v 7) + y ≤ 9999
theorem get_1 {x : Int32} {M : Int32} {n : Nat} (hM : M = nI n) (hn : n < 2 ^ 31) (h : ¬ (x < 1 ∨ M < x)) : ∃ t, 1 ≤ t ∧ t ≤ n ∧ x = nI t := by
  obtain ⟨t, lt, e⟩ := nI_of (x := x) (fun q => h (Or.inl (Int32.lt_trans q (by decide))))
  refine ⟨t, ?_, ?_, e⟩
  · apply Decidable.byContradiction; intro q
    exact h (Or.inl (by rw [e, show t = 0 by omega]; decide))
  · apply Decidable.byContradiction; intro q
    exact h (Or.inr (by rw [e, hM]; exact (nI_lti hn lt).mpr (by omega)))
theorem cs_hasRule (h0x : sh[0]? = some (11, 13)) (h4x : I 0 4 = nI rc) {x : Int32} : Ec X 1 174 [.ref 0, .int x] (sh, I, L, R) (fun r h' => r = some (.int (yn (¬ (x < 0 ∨ nI rc ≤ x)))) ∧ h' = (sh, I, L, R)) := by
  refine Ec.of (Nat.le_of_ble_eq_true rfl) ?_
  refine e_iload rfl rfl ?_
  refine e_iflt_b rfl (fun b1x => ?_) (fun b1x => ?_)
  · refine e_ipush rfl ?_
    exact Eg.ret rfl (by decide) rfl ⟨congrArg (fun z => some (Value.int z)) (yn_f (fun q => q (Or.inl b1x))).symm, rfl⟩
  · refine e_iload rfl rfl ?_
    refine e_aload rfl rfl ?_
    refine e_getIv rfl h0x h4x ?_
    refine e_cge_b rfl (fun b9x => ?_) (fun b9x => ?_)
    · refine e_ipush rfl ?_
      exact Eg.ret rfl (by decide) rfl ⟨congrArg (fun z => some (Value.int z)) (yn_f (fun q => q (Or.inr b9x))).symm, rfl⟩
    · refine e_ipush rfl ?_
      refine e_goto rfl ?_
      exact Eg.ret rfl (by decide) rfl ⟨congrArg (fun z => some (Value.int z)) (yn_t (p := ¬ (x < 0 ∨ nI rc ≤ x)) (fun q => q.elim b1x b9x)).symm, rfl⟩
theorem ms_isRule (hM : MW sh R) (h51x : I 290 51 = nI rc) (h6x : rc ≤ 6) {x : Int32} : Ec X 2 264 [.ref 290, .int x] (sh, I, L, R) (fun r h' => r = some (.int (yn (¬ (x < 0 ∨ nI rc ≤ x)))) ∧ h' = (sh, I, L, R)) := by
  refine Ec.of (Nat.le_of_ble_eq_true rfl) ?_
  refine e_iload rfl rfl ?_
  refine e_i2l rfl ?_
  refine e_lpush rfl ?_
  refine e_aload rfl rfl ?_
  refine e_getIv rfl hM.1 h51x ?_
  refine e_ipush rfl ?_
  refine e_isub rfl ?_
  refine e_i2l rfl ?_
  refine Eg.p3 rfl (by decide) (by decide) rfl (Nat.le_of_ble_eq_true rfl) (xrcv_ofs (Or.inl rfl)) ((ms_inv (x := x) (y := 0) (z := nI rc - 1) rfl rfl rfl).mono (by decide)) ?_
  refine Eg.retZ rfl yn_01 ⟨congrArg (fun z => some (Value.int z)) (yn_iff (out_m1 (by omega))), rfl⟩
theorem cf_run {P : Nat → Int32} {a y : Nat} (hq : AQ sh I R w s y v P a) (hC : CrAt sh R) (hRu : RulC sh I R rc cds cls) (r09x : R 0 9 = some 237) (h237x : w + 200 < 237) (hs240x : s + 12 < 237 ∨ 240 < s) {x z : Int32} : Ec X 7 152 [.ref 0, .int x, .int z] (sh, I, L, R) (fun r h' => (gRun v rc x z ∧ r = some (.int (nI (cn v 7 + z.toNatClampNeg))) ∧ ∃ (J : Nat → Nat → Int32) (M : Nat → Nat → Int64), h' = (sh, J, M, R) ∧ WRel sh J R w s (runF v (cds x.toNatClampNeg) (cls x.toNatClampNeg) z.toNatClampNeg) P 0 ∧ (∀ i k, i < w ∨ w + 200 < i → i ≠ 240 → (i ≠ 237 ∨ k ≠ 4) → J i k = I i k) ∧ ∀ p q, p ≠ 238 → p ≠ 239 → M p q = L p q) ∨ (¬ gRun v rc x z ∧ r = some (.int (-1)) ∧ h' = (sh, I, L, R))) := by
  obtain ⟨h0x, r7x, hWd, rm, hM, hms, hS, hV, hU, hw, hW⟩ := hq.cq
  obtain ⟨-, -, r12x, hy, hw0x, hwy, hsw, hR, hA, -⟩ := hq
  have hb := hw.1.2
  obtain ⟨s8x, r03x, h04x, rc6x, hat, hrs⟩ := hRu
  refine Ec.of (Nat.le_of_ble_eq_true rfl) ?_
  refine e_aload rfl rfl ?_
  refine e_getR rfl h0x r7x ?_
  refine e_getR rfl hWd rm ?_
  refine e_astore rfl ?_
  refine e_aload rfl rfl ?_
  refine e_getR rfl hM.1 hms ?_
  refine Eg.p1 rfl (by decide) (by decide) rfl (Nat.le_of_ble_eq_true rfl) (xrcv_of rfl hS.1 rfl) ((cs_isThereV hS hV hw).mono (by decide)) ?_
  refine e_ifeq_b rfl (fun b15x => ?_) (fun b15x => ?_)
  · replace b15x := yn_0.mp b15x
    refine e_ipush rfl ?_
    exact Eg.ret rfl (by decide) rfl (Or.inr ⟨(fun q => b15x q.1), rfl, rfl⟩)
  · replace b15x := yn_n0.mp b15x
    refine e_aload rfl rfl ?_
    refine e_iload rfl rfl ?_
    refine Eg.p2 rfl (by decide) (by decide) rfl (Nat.le_of_ble_eq_true rfl) (xrcv_of rfl h0x rfl) ((cs_hasRule h0x h04x).mono (by decide)) ?_
    refine e_ifeq_b rfl (fun b23x => ?_) (fun b23x => ?_)
    · replace b23x := yn_0.mp b23x
      refine e_ipush rfl ?_
      exact Eg.ret rfl (by decide) rfl (Or.inr ⟨(fun q => b23x q.2.1), rfl, rfl⟩)
    · replace b23x := yn_n0.mp b23x
      refine e_iload rfl rfl ?_
      refine e_ipush rfl ?_
      refine e_ipush rfl ?_
      refine Eg.p3 rfl (by decide) (by decide) rfl (Nat.le_of_ble_eq_true rfl) (xrcv_ofs (Or.inl rfl)) (cs_withinY.mono (by decide)) ?_
      refine e_ifeq_b rfl (fun b33x => ?_) (fun b33x => ?_)
      · replace b33x := yn_0.mp b33x
        refine e_ipush rfl ?_
        exact Eg.ret rfl (by decide) rfl (Or.inr ⟨(fun q => b33x q.2.2.1), rfl, rfl⟩)
      · replace b33x := yn_n0.mp b33x
        refine e_aload rfl rfl ?_
        refine e_getIv rfl hM.1 hW.1 ?_
        refine e_iload rfl rfl ?_
        refine e_iadd rfl ?_
        refine e_ipush rfl ?_
        refine e_cle_b rfl (fun b45x => ?_) (fun b45x => ?_)
        · refine e_aload rfl rfl ?_
          refine e_getR rfl h0x r7x ?_
          refine e_ipush rfl ?_
          refine e_putIJ rfl hWd (fun J1x g1x f1x => ?_)
          refine e_ipush rfl ?_
          refine e_istore rfl ?_
          refine Eg.pk [0, 1, 2, 3, 4] [4, 3, 0, 1, 2] rfl (by decide) ?_
          have gg : gRun v rc x z := ⟨b15x, b23x, b33x, b45x⟩
          obtain ⟨t, ht, rfl⟩ := nI_get b23x (by omega)
          obtain ⟨n, n1x, n100x, rfl⟩ := get_1 (n := 100) rfl (by decide) b33x
          obtain ⟨ruv, hok⟩ := hrs t ht
          obtain ⟨r8x, hU⟩ := hat t (by omega)
          have n7x : cn v 7 + n ≤ 9999 := by have h7x := hw.1.2.2.2.2.2.2.2.2.1; rw [nI_add] at b45x; exact (nI_lei (b := 9999) (by omega) (by decide)).mp b45x
          refine up_ind (p := fun j => ∀ (J : Nat → Nat → Int32) (M : Nat → Nat → Int64), MomV J (w + 12) (runF v (cds t) (cls t) j) → (∀ i k, i < w + 12 ∨ w + 12 + 8 < i → i ≠ 240 → (i ≠ 237 ∨ k ≠ 4) → J i k = J1x i k) → (∀ p q, p ≠ 238 → p ≠ 239 → M p q = L p q) → Eg X xTc 6 152 61 [(0, .ref 0), (1, .int (nI t)), (2, .int (nI n)), (3, .ref (w + 12)), (4, .int (nI j))] [] (sh, J, M, R) (fun r h' => (gRun v rc (nI t) (nI n) ∧ r = some (.int (nI (cn v 7 + (nI n).toNatClampNeg))) ∧ ∃ (J : Nat → Nat → Int32) (M : Nat → Nat → Int64), h' = (sh, J, M, R) ∧ WRel sh J R w s (runF v (cds (nI t).toNatClampNeg) (cls (nI t).toNatClampNeg) (nI n).toNatClampNeg) P 0 ∧ (∀ i k, i < w ∨ w + 200 < i → i ≠ 240 → (i ≠ 237 ∨ k ≠ 4) → J i k = I i k) ∧ ∀ p q, p ≠ 238 → p ≠ 239 → M p q = L p q) ∨ (¬ gRun v rc (nI t) (nI n) ∧ r = some (.int (-1)) ∧ h' = (sh, I, L, R)))) (n := n) (j := 0) (fun j hj ih J M z1x z2x z3x => ?_) (fun J M z1x z2x z3x => ?_) (Nat.zero_le _) J1x L (hW.fr (fun i k q1x q2x => f1x i k (by omega))) (fun _ _ _ _ _ => rfl) (fun _ _ _ _ => rfl)
          · obtain ⟨a1x, a2x, a3x⟩ := runF_ok (cd := cds t) (cl := cls t) hw j (by omega)
            have hVJ : SeaV J s (runF v (cds t) (cls t) j) := (hV.fr (fun i k q1x q2x => (z2x i k (by omega) (by omega) (by omega)).trans (f1x i k (by omega)))).ex a2x
            have ruJ : RuV J (260 + 5 * t) (cds t) (cls t) := ruv.fr (fun i k q1x q2x => (z2x i k (by omega) (by omega) (by omega)).trans (f1x i k (by omega)))
            refine e_iload rfl rfl ?_
            refine e_iload rfl rfl ?_
            refine e_cge_f rfl (nI_ge hj (by omega)) ?_
            refine e_aload rfl rfl ?_
            refine e_getR rfl h0x r09x ?_
            refine e_aload rfl rfl ?_
            refine e_aload rfl rfl ?_
            refine e_getR rfl h0x r03x ?_
            refine e_iload rfl rfl ?_
            refine e_aald24 rfl s8x (vp_in_nI (by omega) (by decide)) (by rw [nI_clamp (by omega)]; exact r8x) ?_
            refine Eg.c3 rfl (by decide) (by decide) rfl (Nat.le_of_ble_eq_true rfl) (xrcv_of rfl hC.1 rfl) ((cs_crewDay hC hU ruJ hok hS hVJ a1x hM hms z1x (by omega) (by omega) (by omega) (by omega) (by omega)).mono (by decide)) (fun r1x h1x hq => ?_)
            obtain ⟨rfl, J2x, M2x, rfl, y1x, y2x, y3x⟩ := hq
            refine e_iinc rfl rfl ?_
            refine e_goto rfl ?_
            refine Eg.pk [0, 1, 2, 3, 4] [4, 0, 1, 2, 3] rfl (by decide) ?_
            rw [nI_1]
            exact ih J2x M2x y1x (fun i k q1x q2x q3x => (y2x i k q1x q2x q3x).trans (z2x i k q1x q2x q3x)) (fun p q r1x r2x => (y3x p q r1x r2x).trans (z3x p q r1x r2x))
          · obtain ⟨a1x, a2x, a3x⟩ := runF_ok (cd := cds t) (cl := cls t) hw n (by omega)
            have d7x : J (w + 12) 1 = nI (cn v 7 + n) := by have := z1x.1; rw [a3x] at this; exact this
            obtain ⟨b1x, b2x, b3x, b4x, b5x, b6x, b7x, p, b8x⟩ := hA
            refine e_iload rfl rfl ?_
            refine e_iload rfl rfl ?_
            refine e_cge_t rfl (Int32.le_refl _) ?_
            refine e_aload rfl rfl ?_
            refine e_getIv rfl hM.1 d7x ?_
            refine Eg.ret rfl (by decide) rfl (Or.inl ⟨gg, by rw [nI_clamp (by omega)], J, M, rfl, ?_, fun i k q1x q2x q3x => (z2x i k (by omega) q2x q3x).trans (f1x i k (by omega)), z3x⟩)
            rw [nI_clamp (by omega), nI_clamp (by omega)]
            exact ⟨b1x, b2x, b3x, z1x, (b5x.fr0 (fun i k q1x q2x q3x => (z2x i k (by omega) (by omega) (by omega)).trans (f1x i k (by omega)))).ex a2x, (z2x w 2 (by omega) (by omega) (by omega)).trans g1x, Nat.zero_le _, p, b8x.1, b8x.2.1, b8x.2.2.1, fun i q => absurd q (Nat.not_lt_zero _)⟩
        · refine e_ipush rfl ?_
          exact Eg.ret rfl (by decide) rfl (Or.inr ⟨(fun q => b45x q.2.2.2), rfl, rfl⟩)
theorem md_run (hM : MW sh R) (hv : mV I v) (hw : Wf v) (hRu : RulM I rc cds cls) (h309x : ∀ k, k < 4 → I 309 k = 0) {x z : Int32} : Ec X 8 265 [.ref 290, .int x, .int z] (sh, I, L, R) (fun r h' => (gRun v rc x z ∧ r = some (.int (nI (cn v 7 + z.toNatClampNeg))) ∧ ∃ (J : Nat → Nat → Int32) (M : Nat → Nat → Int64), h' = (sh, J, M, R) ∧ mV J (runF v (cds x.toNatClampNeg) (cls x.toNatClampNeg) z.toNatClampNeg) ∧ J 290 71 = nI 0 ∧ (∀ k, k < 4 → J 309 k = 0) ∧ (∀ i k, i < 291 ∨ 321 < i → (i ≠ 290 ∨ k ≠ 71) → J i k = I i k) ∧ ∀ p q, p ≠ 346 → p ≠ 347 → M p q = L p q) ∨ (¬ gRun v rc x z ∧ r = some (.int (-1)) ∧ h' = (sh, I, L, R))) := by
  obtain ⟨h51x, rc6x, hrs⟩ := hRu
  refine Ec.of (Nat.le_of_ble_eq_true rfl) ?_
  refine e_aload rfl rfl ?_
  refine Eg.p1 rfl (by decide) (by decide) rfl (Nat.le_of_ble_eq_true rfl) (xrcv_of rfl hM.1 rfl) ((ms_isSeaV hM hv hw).mono (by decide)) ?_
  refine e_ifeq_b rfl (fun b4x => ?_) (fun b4x => ?_)
  · replace b4x := yn_0.mp b4x
    refine e_ipush rfl ?_
    exact Eg.ret rfl (by decide) rfl (Or.inr ⟨(fun q => b4x q.1), rfl, rfl⟩)
  · replace b4x := yn_n0.mp b4x
    refine e_aload rfl rfl ?_
    refine e_iload rfl rfl ?_
    refine Eg.p2 rfl (by decide) (by decide) rfl (Nat.le_of_ble_eq_true rfl) (xrcv_of rfl hM.1 rfl) ((ms_isRule hM h51x rc6x).mono (by decide)) ?_
    refine e_ifeq_b rfl (fun b12x => ?_) (fun b12x => ?_)
    · replace b12x := yn_0.mp b12x
      refine e_ipush rfl ?_
      exact Eg.ret rfl (by decide) rfl (Or.inr ⟨(fun q => b12x q.2.1), rfl, rfl⟩)
    · replace b12x := yn_n0.mp b12x
      refine e_iload rfl rfl ?_
      refine e_i2l rfl ?_
      refine e_lpush rfl ?_
      refine e_lpush rfl ?_
      refine Eg.p3 rfl (by decide) (by decide) rfl (Nat.le_of_ble_eq_true rfl) (xrcv_ofs (Or.inl rfl)) ((ms_inv (x := z) (y := 1) (z := 100) rfl rfl rfl).mono (by decide)) ?_
      refine e_ifeq_b rfl (fun b24x => ?_) (fun b24x => ?_)
      · replace b24x := yn_0.mp b24x
        refine e_ipush rfl ?_
        exact Eg.ret rfl (by decide) rfl (Or.inr ⟨(fun q => b24x q.2.2.1), rfl, rfl⟩)
      · replace b24x := yn_n0.mp b24x
        refine e_aload rfl rfl ?_
        refine e_getR rfl hM.1 (show R 290 1 = some 291 from (hM.2 0 _ rfl).2) ?_
        refine e_ipush rfl ?_
        refine e_ialv (t := 7) (n := 14) rfl (show sh[291]? = some (20, 14) from (hM.2 0 _ rfl).1) rfl (by decide) (by decide) (hv.n hw (j := 7) (by decide)) ?_
        refine e_iload rfl rfl ?_
        refine e_iadd rfl ?_
        refine e_ipush rfl ?_
        refine e_cle_b rfl (fun b39x => ?_) (fun b39x => ?_)
        · refine e_aload rfl rfl ?_
          refine e_ipush rfl ?_
          refine e_putIJ rfl hM.1 (fun J1x g1x f1x => ?_)
          refine e_ipush rfl ?_
          refine e_istore rfl ?_
          refine Eg.pk [0, 1, 2, 3] [3, 0, 1, 2] rfl (by decide) ?_
          have gg : gRun v rc x z := ⟨b4x, b12x, b24x, b39x⟩
          obtain ⟨t, ht, rfl⟩ := nI_get b12x (by omega)
          obtain ⟨n, n1x, n100x, rfl⟩ := get_1 (n := 100) rfl (by decide) b24x
          obtain ⟨hmu, hok, h61x⟩ := hrs t ht
          have n7x : cn v 7 + n ≤ 9999 := by have h7x := hw.1.2.2.2.2.2.2.2.2.1; rw [nI_add] at b39x; exact (nI_lei (b := 9999) (by omega) (by decide)).mp b39x
          refine up_ind (p := fun j => ∀ (J : Nat → Nat → Int32) (M : Nat → Nat → Int64), mV J (runF v (cds t) (cls t) j) → (∀ k, k < 4 → J 309 k = 0) → (∀ i k, i < 291 ∨ 321 < i → J i k = J1x i k) → (∀ p q, p ≠ 346 → p ≠ 347 → M p q = L p q) → Eg X xTc 7 265 51 [(0, .ref 290), (1, .int (nI t)), (2, .int (nI n)), (3, .int (nI j))] [] (sh, J, M, R) (fun r h' => (gRun v rc (nI t) (nI n) ∧ r = some (.int (nI (cn v 7 + (nI n).toNatClampNeg))) ∧ ∃ (J : Nat → Nat → Int32) (M : Nat → Nat → Int64), h' = (sh, J, M, R) ∧ mV J (runF v (cds (nI t).toNatClampNeg) (cls (nI t).toNatClampNeg) (nI n).toNatClampNeg) ∧ J 290 71 = nI 0 ∧ (∀ k, k < 4 → J 309 k = 0) ∧ (∀ i k, i < 291 ∨ 321 < i → (i ≠ 290 ∨ k ≠ 71) → J i k = I i k) ∧ ∀ p q, p ≠ 346 → p ≠ 347 → M p q = L p q) ∨ (¬ gRun v rc (nI t) (nI n) ∧ r = some (.int (-1)) ∧ h' = (sh, I, L, R)))) (n := n) (j := 0) (fun j hj ih J M z1x z0x z2x z3x => ?_) (fun J M z1x z0x z2x z3x => ?_) (Nat.zero_le _) J1x L (hv.fr (fun i k q1x q2x q3x => f1x i k (by omega))) (fun k q => (f1x 309 k (by omega)).trans (h309x k q)) (fun _ _ _ => rfl) (fun _ _ _ _ => rfl)
          · obtain ⟨a1x, a2x, a3x⟩ := runF_ok (cd := cds t) (cl := cls t) hw j (by omega)
            have muJ : MuV J t (cds t) (cls t) := hmu.fr (fun i k q => (z2x i k (by omega)).trans (f1x i k (by omega)))
            have h61J : J 340 t = nI (cls t).length := (z2x 340 t (by omega)).trans ((f1x 340 t (by omega)).trans h61x)
            refine e_iload rfl rfl ?_
            refine e_iload rfl rfl ?_
            refine e_cge_f rfl (nI_ge hj (by omega)) ?_
            refine e_aload rfl rfl ?_
            refine e_iload rfl rfl ?_
            refine Eg.c2 rfl (by decide) (by decide) rfl (Nat.le_of_ble_eq_true rfl) (xrcv_of rfl hM.1 rfl) ((ms_dayBy hM (by omega) muJ hok h61J z1x a1x).mono (by decide)) (fun r1x h1x hq => ?_)
            obtain ⟨rfl, J2x, M2x, rfl, y1x, y2x, y3x, y4x, y5x⟩ := hq
            refine e_iinc rfl rfl ?_
            refine e_goto rfl ?_
            refine Eg.pk [0, 1, 2, 3] [3, 0, 1, 2] rfl (by decide) ?_
            rw [nI_1]
            exact ih J2x M2x y1x (fun k q => by by_cases e : k < cn (runF v (cds t) (cls t) j) 4; exact y2x k e; exact (y3x k (by omega)).trans (z0x k q)) (fun i k q => (y4x i k q).trans (z2x i k q)) (fun p q r1x r2x => (y5x p q r1x r2x).trans (z3x p q r1x r2x))
          · obtain ⟨a1x, a2x, a3x⟩ := runF_ok (cd := cds t) (cl := cls t) hw n (by omega)
            have d7x : J 291 7 = nI (cn v 7 + n) := by have := z1x.n a1x (j := 7) (by decide); rw [a3x] at this; exact this
            refine e_iload rfl rfl ?_
            refine e_iload rfl rfl ?_
            refine e_cge_t rfl (Int32.le_refl _) ?_
            refine e_aload rfl rfl ?_
            refine e_getR rfl hM.1 (show R 290 1 = some 291 from (hM.2 0 _ rfl).2) ?_
            refine e_ipush rfl ?_
            refine e_ialv (t := 7) (n := 14) rfl (show sh[291]? = some (20, 14) from (hM.2 0 _ rfl).1) rfl (by decide) (by decide) d7x ?_
            refine Eg.ret rfl (by decide) rfl (Or.inl ⟨gg, by rw [nI_clamp (by omega)], J, M, rfl, ?_, (z2x 290 71 (by omega)).trans g1x, z0x, fun i k q1x q2x => (z2x i k q1x).trans (f1x i k q2x), z3x⟩)
            rw [nI_clamp (by omega), nI_clamp (by omega)]
            exact z1x
        · refine e_ipush rfl ?_
          exact Eg.ret rfl (by decide) rfl (Or.inr ⟨(fun q => b39x q.2.2.2), rfl, rfl⟩)
end RN
