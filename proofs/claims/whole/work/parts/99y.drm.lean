/-! drawn: the other side -/
section DM
variable {X : xX} {h : xH} {sh : List (Nat × Nat)} {I : Nat → Nat → Int32} {L : Nat → Nat → Int64} {R : Nat → Nat → Option Nat} {B : Nat → Nat} {n ri p : Nat} {st : rS}
variable {v V : Nat → Nat → Int32} {rc ri : Nat} {cd : List (Nat × Nat)} {cl : List (Nat × Nat × Nat)} {cds : Nat → List (Nat × Nat)} {cls : Nat → List (Nat × Nat × Nat)}
theorem fln_sl : ∀ f, f < 32 → (f = 1 → 14 ≤ fln f) ∧ (f = 13 ∨ f = 14 ∨ f = 17 ∨ f = 18 → 4 ≤ fln f) ∧ (20 ≤ f ∧ f ≤ 23 → 8 ≤ fln f) := by decide
theorem vz.agr (h : vz v) (q : agr V v) : vz V := by
  intro f i hf hi
  have := fln_sl f hf.2.1
  rw [q f i (by rw [slot_iff]; omega)]; exact h f i hf hi
theorem vz.x13 (h : vz v) {a : Int32} : vz (xu v 1 13 a) := by
  intro f i hf hi
  have := fln_sl f hf.2.1
  rw [xu_o (by omega)]; exact h f i hf hi
theorem cel_out : ∀ p, p < 32 → ((291 ≤ cel p ∧ cel p ≤ 321) ∨ cel p = 348 ∨ cel p = 349) ∧ cel p ≠ 309 := by decide
theorem ms_drawnDays (hM : MW sh R) (hri : ri < 6) (hmu : MuV I ri cd cl) (hok : ruOK cd cl) (h61x : I 340 ri = nI cl.length) (hw : Wf v) {x n : Nat} (hx : x < 2 ^ 31) (hv : mV I (xu v 1 13 (nI x))) (h309x : ∀ k, k < 4 → I 309 k = 0) (hn : cn v 7 + n ≤ 20000) : Ec X 8 305 [.ref 290, .int (nI ri), .int (nI n)] (sh, I, L, R) (fun r h' => r = some (.int (nI (dwN nxD (xu v 1 13 (nI x)) cd cl n).2)) ∧ ∃ (J : Nat → Nat → Int32) (M : Nat → Nat → Int64), h' = (sh, J, M, R) ∧ mV J (dwN nxD (xu v 1 13 (nI x)) cd cl n).1 ∧ (∀ k, k < 4 → J 309 k = 0) ∧ (∀ i k, i < 291 ∨ 321 < i → J i k = I i k) ∧ ∀ p q, p ≠ 346 → p ≠ 347 → M p q = L p q) := by
  have c56x : (1 ≤ cn v 6 ∧ cn v 6 ≤ 9) ∧ cn v 5 ≤ cn v 6 ∧ cn v 4 ≤ 4 := by have := hw.1.2; omega
  refine Ec.of (Nat.le_of_ble_eq_true rfl) ?_
  refine e_ipush rfl ?_
  refine e_istore rfl ?_
  refine e_ipush rfl ?_
  refine e_istore rfl ?_
  refine Eg.pk [0, 1, 2, 3, 4] [4, 3, 0, 1, 2] rfl (by decide) ?_
  refine up_ind (p := fun j => ∀ (J : Nat → Nat → Int32) (M : Nat → Nat → Int64), mV J (dwN nxD (xu v 1 13 (nI x)) cd cl j).1 → (∀ k, k < 4 → J 309 k = 0) → (∀ i k, i < 291 ∨ 321 < i → J i k = I i k) → (∀ p q, p ≠ 346 → p ≠ 347 → M p q = L p q) → Eg X xTc 7 305 5 [(0, .ref 290), (1, .int (nI ri)), (2, .int (nI n)), (3, .int (nI (dwN nxD (xu v 1 13 (nI x)) cd cl j).2)), (4, .int (nI j))] [] (sh, J, M, R) (fun r h' => r = some (.int (nI (dwN nxD (xu v 1 13 (nI x)) cd cl n).2)) ∧ ∃ (J : Nat → Nat → Int32) (M : Nat → Nat → Int64), h' = (sh, J, M, R) ∧ mV J (dwN nxD (xu v 1 13 (nI x)) cd cl n).1 ∧ (∀ k, k < 4 → J 309 k = 0) ∧ (∀ i k, i < 291 ∨ 321 < i → J i k = I i k) ∧ ∀ p q, p ≠ 346 → p ≠ 347 → M p q = L p q)) (n := n) (j := 0) (fun j hj ih J M z1x z2x z3x z4x => ?_) (fun J M z1x z2x z3x z4x => ?_) (Nat.zero_le _) I L hv h309x (fun _ _ _ => rfl) (fun _ _ _ _ => rfl)
  · have di := dwN_i (nx := nxD) (cd := cd) (cl := cl) (fun _ => nxD_lt) hw hx (n := j) (by omega)
    rw [dwN_s] at ih
    generalize (dwN nxD (xu v 1 13 (nI x)) cd cl j) = z at z1x di ih ⊢
    have muJ : MuV J ri cd cl := hmu.fr (fun i k q => z3x i k (by omega))
    have h61J : J 340 ri = nI cl.length := (z3x 340 ri (by omega)).trans h61x
    have e4x := dwI_c di (j := 4) (by decide)
    have e5x := dwI_c di (j := 5) (by decide)
    have e6x := dwI_c di (j := 6) (by decide)
    have hy := nxD_lt (x := dxV z.1)
    obtain ⟨y, ey⟩ : ∃ y, nxD (dxV z.1) = y := ⟨_, rfl⟩
    rw [dwD_y ey, e5x, e6x] at ih
    rw [ey] at hy
    have hmod : y / 65536 % cn v 6 < 9 := by have := Nat.mod_lt (y / 65536) (y := cn v 6) (by omega); omega
    have w1x : Wf (rday z.1 cd cl) := rday_wf di.1 (by have := di.2.2.2.2.1; rw [cn13x (by decide)] at this; omega)
    have ra := rday_agr (cd := cd) (cl := cl) di.1
    refine e_iload rfl rfl ?_
    refine e_iload rfl rfl ?_
    refine e_cge_f rfl (nI_ge hj (by omega)) ?_
    refine e_aload rfl rfl ?_
    refine e_iload rfl rfl ?_
    refine Eg.c2 rfl (by decide) (by decide) rfl (Nat.le_of_ble_eq_true rfl) (xrcv_of rfl hM.1 rfl) ((ms_dayBy hM hri muJ hok h61J z1x di.1).mono (by decide)) (fun r1x h1x hq => ?_)
    obtain ⟨rfl, J2x, M2x, rfl, y1x, y2x, y3x, y4x, y5x⟩ := hq
    have k6x : J2x 291 6 = nI (cn v 6) := (y1x.n w1x (j := 6) (by decide)).trans (congrArg nI ((ra.c (Or.inl (by decide))).trans e6x))
    have k13x : J2x 291 13 = nI (dxV z.1) := (y1x 1 13 (by decide)).trans ((ra 1 13 not_slot13).trans di.2.2.1)
    have z0x : ∀ k, k < 4 → J2x 309 k = 0 := fun k q => by by_cases e : k < cn z.1 4; exact y2x k e; exact (y3x k (by omega)).trans (z2x k q)
    refine e_aload rfl rfl ?_
    refine e_aload rfl rfl ?_
    refine e_getR rfl hM.1 (show R 290 1 = some 291 from (hM.2 0 _ rfl).2) ?_
    refine e_ipush rfl ?_
    refine e_ialv (t := 6) (n := 14) rfl (show sh[291]? = some (20, 14) from (hM.2 0 _ rfl).1) rfl (by decide) (by decide) k6x ?_
    refine Eg.c2 rfl (by decide) (by decide) rfl (Nat.le_of_ble_eq_true rfl) (xrcv_of rfl hM.1 rfl) ((ms_draws hM k13x di.2.2.2.1 c56x.1.1 c56x.1.2).mono (by decide)) (fun r1x h1x hq => ?_)
    obtain ⟨rfl, J3x, rfl, y6x, y7x⟩ := hq
    rw [ey] at y6x ⊢
    have m3x : mV J3x (xu (rday z.1 cd cl) 1 13 (nI y)) := y1x.up (f := 1) (by decide) y6x y7x
    have w3x : Wf (xu (rday z.1 cd cl) 1 13 (nI y)) := w1x.x13
    have k5x : J3x 291 5 = nI (cn v 5) := by have := m3x.n w3x (j := 5) (by decide); rw [cn13x (by decide), ra.c (Or.inl (by decide)), e5x] at this; exact this
    refine e_aload rfl rfl ?_
    refine e_getR rfl hM.1 (show R 290 1 = some 291 from (hM.2 0 _ rfl).2) ?_
    refine e_ipush rfl ?_
    refine e_ialv (t := 5) (n := 14) rfl (show sh[291]? = some (20, 14) from (hM.2 0 _ rfl).1) rfl (by decide) (by decide) k5x ?_
    refine e_cge_b rfl (fun b33x => ?_) (fun b33x => ?_)
    · refine e_iinc rfl rfl ?_
      refine e_goto rfl ?_
      refine Eg.pk [0, 1, 2, 3, 4] [4, 0, 1, 2, 3] rfl (by decide) ?_
      rw [nI_1]
      rw [if_neg (fun q => absurd ((nI_lei (by omega) (by omega)).mp b33x) (by omega))] at ih
      exact ih J3x M2x m3x (fun k q => (y7x 309 k (by omega)).trans (z0x k q)) (fun i k q => (y7x i k (by omega)).trans ((y4x i k q).trans (z3x i k q))) (fun p q r1x r2x => (y5x p q r1x r2x).trans (z4x p q r1x r2x))
    · refine e_iinc rfl rfl ?_
      refine e_ipush rfl ?_
      refine e_istore rfl ?_
      refine Eg.pk [0, 1, 2, 3, 4, 5] [5, 3, 0, 1, 2, 4] rfl (by decide) ?_
      rw [if_pos (Decidable.byContradiction (fun q => b33x ((nI_lei (by omega) (by omega)).mpr (by omega))))] at ih
      have e4u : cn (xu (rday z.1 cd cl) 1 13 (nI y)) 4 = cn v 4 := by rw [cn13x (by decide), ra.c (Or.inl (by decide)), e4x]
      have wu : Wf (xu (rday z.1 cd cl) 1 13 (nI y)) := w3x
      unfold stmF at ih
      rw [e4u] at ih
      generalize xu (rday z.1 cd cl) 1 13 (nI y) = U0x at ih m3x e4u wu
      rw [nI_1]
      refine up_ind (p := fun k => ∀ J : Nat → Nat → Int32, mV J (stmW U0x k) → (∀ i t, i ≠ 304 → J i t = J3x i t) → Eg X xTc 7 305 42 [(0, .ref 290), (1, .int (nI ri)), (2, .int (nI n)), (3, .int (nI (z.2 + 1))), (4, .int (nI j)), (5, .int (nI k))] [] (sh, J, M2x, R) (fun r h' => r = some (.int (nI (dwN nxD (xu v 1 13 (nI x)) cd cl n).2)) ∧ ∃ (J : Nat → Nat → Int32) (M : Nat → Nat → Int64), h' = (sh, J, M, R) ∧ mV J (dwN nxD (xu v 1 13 (nI x)) cd cl n).1 ∧ (∀ k, k < 4 → J 309 k = 0) ∧ (∀ i k, i < 291 ∨ 321 < i → J i k = I i k) ∧ ∀ p q, p ≠ 346 → p ≠ 347 → M p q = L p q)) (n := cn v 4) (j := 0) (fun k hk ik J a1x a2x => ?_) (fun J a1x a2x => ?_) (Nat.zero_le _) J3x m3x (fun _ _ _ => rfl)
      · have k4x : J 291 4 = nI (cn v 4) := (a2x 291 4 (by decide)).trans ((m3x.n wu (j := 4) (by decide)).trans (congrArg nI e4u))
        obtain ⟨U, eU⟩ : ∃ U, stmW U0x k = U := ⟨_, rfl⟩
        have eu : stmW U0x (k + 1) = stmS k U := by rw [← eU]; rfl
        rw [eU] at a1x
        refine e_iload rfl rfl ?_
        refine e_aload rfl rfl ?_
        refine e_getR rfl hM.1 (show R 290 1 = some 291 from (hM.2 0 _ rfl).2) ?_
        refine e_ipush rfl ?_
        refine e_ialv (t := 4) (n := 14) rfl (show sh[291]? = some (20, 14) from (hM.2 0 _ rfl).1) rfl (by decide) (by decide) k4x ?_
        refine e_cge_f rfl (nI_ge hk (by omega)) ?_
        refine e_aload rfl rfl ?_
        refine e_getR rfl hM.1 (show R 290 14 = some 304 from (hM.2 13 _ rfl).2) ?_
        refine e_iload rfl rfl ?_
        refine e_dup2 rfl ?_
        refine e_ialv (t := k) (n := 4) rfl (show sh[304]? = some (20, 4) from (hM.2 13 _ rfl).1) rfl (by omega) (by decide) (a1x 14 k (by decide)) ?_
        refine e_aload rfl rfl ?_
        refine e_getR rfl hM.1 (show R 290 18 = some 308 from (hM.2 17 _ rfl).2) ?_
        refine e_iload rfl rfl ?_
        refine e_ialv (t := k) (n := 4) rfl (show sh[308]? = some (20, 4) from (hM.2 17 _ rfl).1) rfl (by omega) (by decide) (a1x 18 k (by decide)) ?_
        refine e_ipush rfl ?_
        refine e_cne_b rfl (fun b69x => ?_) (fun b69x => ?_)
        · refine e_ipush rfl ?_
          refine e_isub rfl ?_
          refine e_iasJ (t := k) (n := 4) rfl (show sh[304]? = some (20, 4) from (hM.2 13 _ rfl).1) rfl (by omega) (by decide) (fun J1x g1x f1x => ?_)
          refine e_iinc rfl rfl ?_
          refine e_goto rfl ?_
          refine Eg.pk [0, 1, 2, 3, 4, 5] [5, 0, 1, 2, 3, 4] rfl (by decide) ?_
          rw [nI_1]
          refine ik J1x ?_ (fun i t q => (f1x i t (Or.inl q)).trans (a2x i t q))
          rw [show stmW U0x (k + 1) = stmS k U from eu]
          rw [show stmS k U = xu U 14 k (U 14 k - 0) from (if_neg (fun q => b69x q.1)).trans (by rw [Int32.sub_zero]; exact xu_same.symm)]
          exact a1x.up (f := 14) (by decide) g1x f1x
        · refine e_aload rfl rfl ?_
          refine e_getR rfl hM.1 (show R 290 14 = some 304 from (hM.2 13 _ rfl).2) ?_
          refine e_iload rfl rfl ?_
          refine e_ialv (t := k) (n := 4) rfl (show sh[304]? = some (20, 4) from (hM.2 13 _ rfl).1) rfl (by omega) (by decide) (a1x 14 k (by decide)) ?_
          refine e_ifle_b rfl (fun b79x => ?_) (fun b79x => ?_)
          · refine e_ipush rfl ?_
            refine e_isub rfl ?_
            refine e_iasJ (t := k) (n := 4) rfl (show sh[304]? = some (20, 4) from (hM.2 13 _ rfl).1) rfl (by omega) (by decide) (fun J2x g2x f2x => ?_)
            refine e_iinc rfl rfl ?_
            refine e_goto rfl ?_
            refine Eg.pk [0, 1, 2, 3, 4, 5] [5, 0, 1, 2, 3, 4] rfl (by decide) ?_
            rw [nI_1]
            refine ik J2x ?_ (fun i t q => (f2x i t (Or.inl q)).trans (a2x i t q))
            rw [show stmW U0x (k + 1) = stmS k U from eu]
            rw [show stmS k U = xu U 14 k (U 14 k - 0) from (if_neg (fun q => absurd q.2 (Int32.not_lt.mpr b79x))).trans (by rw [Int32.sub_zero]; exact xu_same.symm)]
            exact a1x.up (f := 14) (by decide) g2x f2x
          · refine e_ipush rfl ?_
            refine e_goto rfl ?_
            refine e_isub rfl ?_
            refine e_iasJ (t := k) (n := 4) rfl (show sh[304]? = some (20, 4) from (hM.2 13 _ rfl).1) rfl (by omega) (by decide) (fun J3x g3x f3x => ?_)
            refine e_iinc rfl rfl ?_
            refine e_goto rfl ?_
            refine Eg.pk [0, 1, 2, 3, 4, 5] [5, 0, 1, 2, 3, 4] rfl (by decide) ?_
            rw [nI_1]
            refine ik J3x ?_ (fun i t q => (f3x i t (Or.inl q)).trans (a2x i t q))
            rw [show stmW U0x (k + 1) = stmS k U from eu]
            rw [show stmS k U = xu U 14 k (U 14 k - 1) from if_pos ⟨b69x, Int32.not_le.mp b79x⟩]
            exact a1x.up (f := 14) (by decide) g3x f3x
      · have k4x : J 291 4 = nI (cn v 4) := (a2x 291 4 (by decide)).trans ((m3x.n wu (j := 4) (by decide)).trans (congrArg nI e4u))
        refine e_iload rfl rfl ?_
        refine e_aload rfl rfl ?_
        refine e_getR rfl hM.1 (show R 290 1 = some 291 from (hM.2 0 _ rfl).2) ?_
        refine e_ipush rfl ?_
        refine e_ialv (t := 4) (n := 14) rfl (show sh[291]? = some (20, 14) from (hM.2 0 _ rfl).1) rfl (by decide) (by decide) k4x ?_
        refine e_cge_t rfl (Int32.le_refl _) ?_
        refine e_iinc rfl rfl ?_
        refine e_goto rfl ?_
        refine Eg.pk [0, 1, 2, 3, 4] [4, 0, 1, 2, 3, 5] rfl (by decide) ?_
        rw [nI_1]
        exact ih J M2x a1x (fun k q => (a2x 309 k (by decide)).trans ((y7x 309 k (by omega)).trans (z0x k q))) (fun i k q => (a2x i k (by omega)).trans ((y7x i k (by omega)).trans ((y4x i k q).trans (z3x i k q)))) (fun p q r1x r2x => (y5x p q r1x r2x).trans (z4x p q r1x r2x))
  · refine e_iload rfl rfl ?_
    refine e_iload rfl rfl ?_
    refine e_cge_t rfl (Int32.le_refl _) ?_
    refine e_iload rfl rfl ?_
    exact Eg.ret rfl (by decide) rfl ⟨rfl, J, M, rfl, z1x, z2x, z3x, z4x⟩
theorem md_drawn (hM : MW sh R) (hv : mV I v) (hw : Wf v) (hRu : RulM I rc cds cls) (h309x : ∀ k, k < 4 → I 309 k = 0) {P : Nat → Int32} {a x13x : Nat} (hP : ∀ x, I 348 x = P x) (h71x : I 290 71 = nI a) (hz : vz v) (hp : pz P) (h99x : cn v 7 ≤ 9999) (h13x : v 1 13 = nI x13x) (hx13x : x13x < 2 ^ 31) {x km kn kw : Int32} : Ec X 9 306 [.ref 290, .int x, .int km, .int kn, .int kw] (sh, I, L, R) (fun r h' => (gDrw v rc x km kn kw ∧ r = some (.int (aDrw (drT nxD v (cds x.toNatClampNeg) (cls x.toNatClampNeg) kn.toNatClampNeg x13x km.toNatClampNeg) kw)) ∧ ∃ (J : Nat → Nat → Int32) (M : Nat → Nat → Int64), h' = (sh, J, M, R) ∧ mV J v ∧ (∀ k, k < 4 → J 309 k = 0) ∧ (∀ i k, i < 291 ∨ 321 < i → i ≠ 349 → (i ≠ 358 ∨ k < 5600) → (i ≠ 290 ∨ (k ≠ 86 ∧ k ≠ 87)) → J i k = I i k) ∧ ∀ p q, p ≠ 346 → p ≠ 347 → M p q = L p q) ∨ (¬ gDrw v rc x km kn kw ∧ r = some (.int (-1)) ∧ h' = (sh, I, L, R))) := by
  obtain ⟨h51x, rc6x, hrs⟩ := hRu
  have v13x : I 291 13 = nI x13x := (hv 1 13 (by decide)).trans h13x
  refine Ec.of (Nat.le_of_ble_eq_true rfl) ?_
  refine e_aload rfl rfl ?_
  refine Eg.p1 rfl (by decide) (by decide) rfl (Nat.le_of_ble_eq_true rfl) (xrcv_of rfl hM.1 rfl) ((ms_isSeaV hM hv hw).mono (by decide)) ?_
  refine e_ifeq_b rfl (fun b4x => ?_) (fun b4x => ?_)
  · replace b4x := yn_0.mp b4x
    refine e_ipush rfl ?_
    exact Eg.ret rfl (by decide) rfl (Or.inr ⟨fun q => b4x q.1, rfl, rfl⟩)
  · replace b4x := yn_n0.mp b4x
    refine e_aload rfl rfl ?_
    refine e_iload rfl rfl ?_
    refine Eg.p2 rfl (by decide) (by decide) rfl (Nat.le_of_ble_eq_true rfl) (xrcv_of rfl hM.1 rfl) ((ms_isRule hM h51x rc6x).mono (by decide)) ?_
    refine e_ifeq_b rfl (fun b12x => ?_) (fun b12x => ?_)
    · replace b12x := yn_0.mp b12x
      refine e_ipush rfl ?_
      exact Eg.ret rfl (by decide) rfl (Or.inr ⟨fun q => b12x q.2.1, rfl, rfl⟩)
    · replace b12x := yn_n0.mp b12x
      refine e_iload rfl rfl ?_
      refine e_i2l rfl ?_
      refine e_lpush rfl ?_
      refine e_lpush rfl ?_
      refine Eg.p3 rfl (by decide) (by decide) rfl (Nat.le_of_ble_eq_true rfl) (xrcv_ofs (Or.inl rfl)) ((ms_inv (x := km) (y := 1) (z := 10) rfl rfl rfl).mono (by decide)) ?_
      refine e_ifeq_b rfl (fun b24x => ?_) (fun b24x => ?_)
      · replace b24x := yn_0.mp b24x
        refine e_ipush rfl ?_
        exact Eg.ret rfl (by decide) rfl (Or.inr ⟨fun q => b24x q.2.2.1, rfl, rfl⟩)
      · replace b24x := yn_n0.mp b24x
        refine e_iload rfl rfl ?_
        refine e_i2l rfl ?_
        refine e_lpush rfl ?_
        refine e_lpush rfl ?_
        refine Eg.p3 rfl (by decide) (by decide) rfl (Nat.le_of_ble_eq_true rfl) (xrcv_ofs (Or.inl rfl)) ((ms_inv (x := kn) (y := 1) (z := 100) rfl rfl rfl).mono (by decide)) ?_
        refine e_ifeq_b rfl (fun b36x => ?_) (fun b36x => ?_)
        · replace b36x := yn_0.mp b36x
          refine e_ipush rfl ?_
          exact Eg.ret rfl (by decide) rfl (Or.inr ⟨fun q => b36x q.2.2.2.1, rfl, rfl⟩)
        · replace b36x := yn_n0.mp b36x
          refine e_iload rfl rfl ?_
          refine e_i2l rfl ?_
          refine e_lpush rfl ?_
          refine e_lpush rfl ?_
          refine Eg.p3 rfl (by decide) (by decide) rfl (Nat.le_of_ble_eq_true rfl) (xrcv_ofs (Or.inl rfl)) ((ms_inv (x := kw) (y := 0) (z := 2) rfl rfl rfl).mono (by decide)) ?_
          refine e_ifne_b rfl (fun b49x => ?_) (fun b49x => ?_)
          · replace b49x := yn_n0.mp b49x
            refine e_aload rfl rfl ?_
            refine e_getR rfl hM.1 (show R 290 1 = some 291 from (hM.2 0 _ rfl).2) ?_
            refine e_ipush rfl ?_
            refine e_ialv (t := 13) (n := 14) rfl (show sh[291]? = some (20, 14) from (hM.2 0 _ rfl).1) rfl (by decide) (by decide) v13x ?_
            refine e_istore rfl ?_
            refine e_aload rfl rfl ?_
            refine Eg.p1 rfl (by decide) (by decide) rfl (Nat.le_of_ble_eq_true rfl) (xrcv_of rfl hM.1 rfl) ((ms_paidAll hM hv hw).mono (by decide)) ?_
            refine e_istore rfl ?_
            refine e_ipush rfl ?_
            refine e_istore rfl ?_
            refine e_iload rfl rfl ?_
            refine e_istore rfl ?_
            refine e_aload rfl rfl ?_
            refine e_ipush rfl ?_
            refine e_ipush rfl ?_
            refine Eg.c3 rfl (by decide) (by decide) rfl (Nat.le_of_ble_eq_true rfl) (xrcv_of rfl hM.1 rfl) ((ms_carriesS hM (k := 4) (by decide)).mono (by decide)) (fun r1x h1x hq => ?_)
            obtain ⟨rfl, J0x, rfl, cp⟩ := hq
            refine e_ipush rfl ?_
            refine e_istore rfl ?_
            refine Eg.pk [0, 1, 2, 3, 4, 5, 6, 7, 8, 9] [9, 8, 7, 6, 5, 0, 1, 2, 3, 4] rfl (by decide) ?_
            have gg : gDrw v rc x km kn kw := ⟨b4x, b12x, b24x, b36x, b49x⟩
            have hk := kw_3 b49x
            obtain ⟨t, ht, rfl⟩ := nI_get b12x (by omega)
            obtain ⟨mm, m1x, m10x, rfl⟩ := get_1 (n := 10) rfl (by decide) b24x
            obtain ⟨n, n1x, n100x, rfl⟩ := get_1 (n := 100) rfl (by decide) b36x
            obtain ⟨hmu, hok, h61x⟩ := hrs t ht
            rw [nI_clamp (n := t) (by omega), nI_clamp (n := mm) (by omega), nI_clamp (n := n) (by omega)]
            have im := cp.img hv hP h71x
            obtain ⟨c1x, c2x, c3x, c4x⟩ := cp
            have s0x : aDrw (drT nxD v (cds t) (cls t) n x13x 0) kw = 0 := by rcases hk with rfl | rfl | rfl; exact aDrw_0; exact aDrw_1; exact aDrw_2
            have key : ∀ (J : Nat → Nat → Int32) (M : Nat → Nat → Int64), mV J v → (∀ k, k < 4 → J 309 k = 0) → ImgV (fun x => J 358 (1400 * 4 + x)) v P a → (∀ i k, i < 291 ∨ 321 < i → i ≠ 349 → (i ≠ 358 ∨ k < 5600) → (i ≠ 290 ∨ (k ≠ 86 ∧ k ≠ 87)) → J i k = I i k) → (∀ p q, p ≠ 346 → p ≠ 347 → M p q = L p q) → Eg X xTc 8 306 85 [(0, .ref 290), (1, .int (nI t)), (2, .int (nI mm)), (3, .int (nI n)), (4, .int kw), (5, .int (nI x13x)), (6, .int (paidN v)), (7, .int (aDrw (drT nxD v (cds t) (cls t) n x13x 0) kw)), (8, .int (nI (drT nxD v (cds t) (cls t) n x13x 0).1)), (9, .int (nI 0))] [] (sh, J, M, R) (fun r h' => (gDrw v rc (nI t) (nI mm) (nI n) kw ∧ r = some (.int (aDrw (drT nxD v (cds t) (cls t) n x13x mm) kw)) ∧ ∃ (J : Nat → Nat → Int32) (M : Nat → Nat → Int64), h' = (sh, J, M, R) ∧ mV J v ∧ (∀ k, k < 4 → J 309 k = 0) ∧ (∀ i k, i < 291 ∨ 321 < i → i ≠ 349 → (i ≠ 358 ∨ k < 5600) → (i ≠ 290 ∨ (k ≠ 86 ∧ k ≠ 87)) → J i k = I i k) ∧ ∀ p q, p ≠ 346 → p ≠ 347 → M p q = L p q) ∨ (¬ gDrw v rc (nI t) (nI mm) (nI n) kw ∧ r = some (.int (-1)) ∧ h' = (sh, I, L, R))) := by
              refine up_ind (p := fun j => ∀ (J : Nat → Nat → Int32) (M : Nat → Nat → Int64), mV J v → (∀ k, k < 4 → J 309 k = 0) → ImgV (fun x => J 358 (1400 * 4 + x)) v P a → (∀ i k, i < 291 ∨ 321 < i → i ≠ 349 → (i ≠ 358 ∨ k < 5600) → (i ≠ 290 ∨ (k ≠ 86 ∧ k ≠ 87)) → J i k = I i k) → (∀ p q, p ≠ 346 → p ≠ 347 → M p q = L p q) → Eg X xTc 8 306 85 [(0, .ref 290), (1, .int (nI t)), (2, .int (nI mm)), (3, .int (nI n)), (4, .int kw), (5, .int (nI x13x)), (6, .int (paidN v)), (7, .int (aDrw (drT nxD v (cds t) (cls t) n x13x j) kw)), (8, .int (nI (drT nxD v (cds t) (cls t) n x13x j).1)), (9, .int (nI j))] [] (sh, J, M, R) (fun r h' => (gDrw v rc (nI t) (nI mm) (nI n) kw ∧ r = some (.int (aDrw (drT nxD v (cds t) (cls t) n x13x mm) kw)) ∧ ∃ (J : Nat → Nat → Int32) (M : Nat → Nat → Int64), h' = (sh, J, M, R) ∧ mV J v ∧ (∀ k, k < 4 → J 309 k = 0) ∧ (∀ i k, i < 291 ∨ 321 < i → i ≠ 349 → (i ≠ 358 ∨ k < 5600) → (i ≠ 290 ∨ (k ≠ 86 ∧ k ≠ 87)) → J i k = I i k) ∧ ∀ p q, p ≠ 346 → p ≠ 347 → M p q = L p q) ∨ (¬ gDrw v rc (nI t) (nI mm) (nI n) kw ∧ r = some (.int (-1)) ∧ h' = (sh, I, L, R)))) (n := mm) (j := 0) (fun j hj ih J M z1x z2x z3x z4x z5x => ?_) (fun J M z1x z2x z3x z4x z5x => ?_) (Nat.zero_le _)
              · have hlt := drT_lt (nx := nxD) (cd := cds t) (cl := cls t) (k := j) (fun _ => nxD_lt) hw hx13x (n := n) (by omega)
                rw [drT_s] at ih
                generalize (drT nxD v (cds t) (cls t) n x13x j) = z at hlt ih ⊢
                have di := dwN_i (nx := nxD) (cd := cds t) (cl := cls t) (fun _ => nxD_lt) hw hlt (n := n) (by omega)
                refine e_iload rfl rfl ?_
                refine e_iload rfl rfl ?_
                refine e_cge_f rfl (nI_ge hj (by omega)) ?_
                refine e_aload rfl rfl ?_
                refine e_getR rfl hM.1 (show R 290 1 = some 291 from (hM.2 0 _ rfl).2) ?_
                refine e_ipush rfl ?_
                refine e_iload rfl rfl ?_
                refine e_iasJ (t := 13) (n := 14) rfl (show sh[291]? = some (20, 14) from (hM.2 0 _ rfl).1) rfl (by decide) (by decide) (fun J1x g1x f1x => ?_)
                refine e_aload rfl rfl ?_
                refine e_iload rfl rfl ?_
                refine e_iload rfl rfl ?_
                refine Eg.c3 rfl (by decide) (by decide) rfl (Nat.le_of_ble_eq_true rfl) (xrcv_of rfl hM.1 rfl) ((ms_drawnDays hM (by omega) (hmu.fr (fun i k q => (f1x i k (by omega)).trans (z4x i k (by omega) (by omega) (by omega) (by omega)))) hok ((f1x 340 t (by omega)).trans ((z4x 340 t (by omega) (by omega) (by omega) (by omega)).trans h61x)) hw hlt (z1x.up (f := 1) (by decide) g1x f1x) (fun k q => (f1x 309 k (by omega)).trans (z2x k q)) (by omega)).mono (by decide)) (fun r1x h1x hq => ?_)
                obtain ⟨rfl, J2x, M2x, rfl, y1x, y2x, y3x, y4x⟩ := hq
                obtain ⟨Z, eZ⟩ : ∃ Z, (dwN nxD (xu v 1 13 (nI z.1)) (cds t) (cls t) n) = Z := ⟨_, rfl⟩
                unfold drS at ih
                rw [eZ] at y1x di ih ⊢
                have k13x : J2x 291 13 = nI (dxV Z.1) := (y1x 1 13 (by decide)).trans di.2.2.1
                refine e_istore rfl ?_
                refine e_iload rfl rfl ?_
                refine e_iload rfl rfl ?_
                refine e_ifne_b rfl (fun b112x => ?_) (fun b112x => ?_)
                · refine e_iload rfl rfl ?_
                  refine e_ipush rfl ?_
                  refine e_cne_b rfl (fun b125x => ?_) (fun b125x => ?_)
                  · refine e_iload rfl rfl ?_
                    refine e_iadd rfl ?_
                    refine e_istore rfl ?_
                    refine e_aload rfl rfl ?_
                    refine e_getR rfl hM.1 (show R 290 1 = some 291 from (hM.2 0 _ rfl).2) ?_
                    refine e_ipush rfl ?_
                    refine e_ialv (t := 13) (n := 14) rfl (show sh[291]? = some (20, 14) from (hM.2 0 _ rfl).1) rfl (by decide) (by decide) k13x ?_
                    refine e_istore rfl ?_
                    refine e_aload rfl rfl ?_
                    refine e_ipush rfl ?_
                    refine e_ipush rfl ?_
                    refine Eg.c3 rfl (by decide) (by decide) rfl (Nat.le_of_ble_eq_true rfl) (xrcv_of rfl hM.1 rfl) ((ms_carriesL hM (k := 4) (by decide)).mono (by decide)) (fun r1x h1x hq => ?_)
                    obtain ⟨rfl, J3x, rfl, cq⟩ := hq
                    refine e_iinc rfl rfl ?_
                    refine e_goto rfl ?_
                    refine Eg.pk [0, 1, 2, 3, 4, 5, 6, 7, 8, 9] [9, 8, 7, 10, 0, 1, 2, 3, 4, 5, 6] rfl (by decide) ?_
                    rw [nI_1]
                    obtain rfl : kw = 2 := (hk.resolve_left b112x).resolve_left b125x
                    rw [aDrw_2] at ih ⊢
                    have fr2x : ∀ i k, i < 291 ∨ 321 < i → i ≠ 349 → (i ≠ 358 ∨ k < 5600) → (i ≠ 290 ∨ (k ≠ 86 ∧ k ≠ 87)) → J2x i k = I i k := fun i k q1x q2x q3x q4x => (y3x i k q1x).trans ((f1x i k (by omega)).trans (z4x i k q1x q2x q3x q4x))
                    have i2x : ImgV (fun x => J2x 358 (1400 * 4 + x)) v P a := by
                      have e : (fun x => J2x 358 (1400 * 4 + x)) = fun x => J 358 (1400 * 4 + x) := funext (fun x => (y3x 358 _ (by omega)).trans (f1x 358 _ (by omega)))
                      rw [e]; exact z3x
                    have p2x : ∀ x, J2x 348 x = P x := fun x => (fr2x 348 x (by omega) (by omega) (by omega) (by omega)).trans (hP x)
                    have vzz : vz Z.1 := (hz.x13.x13).agr di.2.1
                    obtain ⟨d1x, d2x, d3x⟩ := cq.img y1x p2x hz vzz hp hp i2x
                    obtain ⟨-, -, -, d4x⟩ := cq
                    refine ih J3x M2x d1x (fun k q => (d4x 309 k (fun p hp e => (cel_out p hp).2 e.symm) (Or.inl (by decide))).trans (y2x k q)) ?_ (fun i k q1x q2x q3x q4x => ?_) (fun p q r1x r2x => (y4x p q r1x r2x).trans (z5x p q r1x r2x))
                    · have e : (fun x => J3x 358 (1400 * 4 + x)) = fun x => J2x 358 (1400 * 4 + x) := funext (fun x => d4x 358 _ (fun p hp e => by have := cel_out p hp; omega) (Or.inl (by decide)))
                      rw [e]; exact i2x
                    · by_cases e1x : i = 348
                      · rw [e1x]; exact (d2x k).trans (hP k).symm
                      · by_cases e2x : i = 290 ∧ k = 71
                        · rw [e2x.1, e2x.2]; exact d3x.trans h71x.symm
                        · exact (d4x i k (fun p hp e => by have := cel_out p hp; omega) (by omega)).trans (fr2x i k q1x q2x q3x q4x)
                  · refine e_aload rfl rfl ?_
                    refine Eg.p1 rfl (by decide) (by decide) rfl (Nat.le_of_ble_eq_true rfl) (xrcv_of rfl hM.1 rfl) ((ms_paidAll hM y1x di.1).mono (by decide)) ?_
                    refine e_iload rfl rfl ?_
                    refine e_isub rfl ?_
                    refine e_goto rfl ?_
                    refine e_iadd rfl ?_
                    refine e_istore rfl ?_
                    refine e_aload rfl rfl ?_
                    refine e_getR rfl hM.1 (show R 290 1 = some 291 from (hM.2 0 _ rfl).2) ?_
                    refine e_ipush rfl ?_
                    refine e_ialv (t := 13) (n := 14) rfl (show sh[291]? = some (20, 14) from (hM.2 0 _ rfl).1) rfl (by decide) (by decide) k13x ?_
                    refine e_istore rfl ?_
                    refine e_aload rfl rfl ?_
                    refine e_ipush rfl ?_
                    refine e_ipush rfl ?_
                    refine Eg.c3 rfl (by decide) (by decide) rfl (Nat.le_of_ble_eq_true rfl) (xrcv_of rfl hM.1 rfl) ((ms_carriesL hM (k := 4) (by decide)).mono (by decide)) (fun r1x h1x hq => ?_)
                    obtain ⟨rfl, J3x, rfl, cq⟩ := hq
                    refine e_iinc rfl rfl ?_
                    refine e_goto rfl ?_
                    refine Eg.pk [0, 1, 2, 3, 4, 5, 6, 7, 8, 9] [9, 8, 7, 10, 0, 1, 2, 3, 4, 5, 6] rfl (by decide) ?_
                    rw [nI_1]
                    obtain rfl : kw = 1 := b125x
                    rw [aDrw_1] at ih ⊢
                    have fr2x : ∀ i k, i < 291 ∨ 321 < i → i ≠ 349 → (i ≠ 358 ∨ k < 5600) → (i ≠ 290 ∨ (k ≠ 86 ∧ k ≠ 87)) → J2x i k = I i k := fun i k q1x q2x q3x q4x => (y3x i k q1x).trans ((f1x i k (by omega)).trans (z4x i k q1x q2x q3x q4x))
                    have i2x : ImgV (fun x => J2x 358 (1400 * 4 + x)) v P a := by
                      have e : (fun x => J2x 358 (1400 * 4 + x)) = fun x => J 358 (1400 * 4 + x) := funext (fun x => (y3x 358 _ (by omega)).trans (f1x 358 _ (by omega)))
                      rw [e]; exact z3x
                    have p2x : ∀ x, J2x 348 x = P x := fun x => (fr2x 348 x (by omega) (by omega) (by omega) (by omega)).trans (hP x)
                    have vzz : vz Z.1 := (hz.x13.x13).agr di.2.1
                    obtain ⟨d1x, d2x, d3x⟩ := cq.img y1x p2x hz vzz hp hp i2x
                    obtain ⟨-, -, -, d4x⟩ := cq
                    refine ih J3x M2x d1x (fun k q => (d4x 309 k (fun p hp e => (cel_out p hp).2 e.symm) (Or.inl (by decide))).trans (y2x k q)) ?_ (fun i k q1x q2x q3x q4x => ?_) (fun p q r1x r2x => (y4x p q r1x r2x).trans (z5x p q r1x r2x))
                    · have e : (fun x => J3x 358 (1400 * 4 + x)) = fun x => J2x 358 (1400 * 4 + x) := funext (fun x => d4x 358 _ (fun p hp e => by have := cel_out p hp; omega) (Or.inl (by decide)))
                      rw [e]; exact i2x
                    · by_cases e1x : i = 348
                      · rw [e1x]; exact (d2x k).trans (hP k).symm
                      · by_cases e2x : i = 290 ∧ k = 71
                        · rw [e2x.1, e2x.2]; exact d3x.trans h71x.symm
                        · exact (d4x i k (fun p hp e => by have := cel_out p hp; omega) (by omega)).trans (fr2x i k q1x q2x q3x q4x)
                · refine e_aload rfl rfl ?_
                  refine Eg.p1 rfl (by decide) (by decide) rfl (Nat.le_of_ble_eq_true rfl) (xrcv_of rfl hM.1 rfl) ((ms_dryAll hM y1x di.1).mono (by decide)) ?_
                  refine e_goto rfl ?_
                  refine e_iadd rfl ?_
                  refine e_istore rfl ?_
                  refine e_aload rfl rfl ?_
                  refine e_getR rfl hM.1 (show R 290 1 = some 291 from (hM.2 0 _ rfl).2) ?_
                  refine e_ipush rfl ?_
                  refine e_ialv (t := 13) (n := 14) rfl (show sh[291]? = some (20, 14) from (hM.2 0 _ rfl).1) rfl (by decide) (by decide) k13x ?_
                  refine e_istore rfl ?_
                  refine e_aload rfl rfl ?_
                  refine e_ipush rfl ?_
                  refine e_ipush rfl ?_
                  refine Eg.c3 rfl (by decide) (by decide) rfl (Nat.le_of_ble_eq_true rfl) (xrcv_of rfl hM.1 rfl) ((ms_carriesL hM (k := 4) (by decide)).mono (by decide)) (fun r1x h1x hq => ?_)
                  obtain ⟨rfl, J3x, rfl, cq⟩ := hq
                  refine e_iinc rfl rfl ?_
                  refine e_goto rfl ?_
                  refine Eg.pk [0, 1, 2, 3, 4, 5, 6, 7, 8, 9] [9, 8, 7, 10, 0, 1, 2, 3, 4, 5, 6] rfl (by decide) ?_
                  rw [nI_1]
                  obtain rfl : kw = 0 := b112x
                  rw [aDrw_0] at ih ⊢
                  have fr2x : ∀ i k, i < 291 ∨ 321 < i → i ≠ 349 → (i ≠ 358 ∨ k < 5600) → (i ≠ 290 ∨ (k ≠ 86 ∧ k ≠ 87)) → J2x i k = I i k := fun i k q1x q2x q3x q4x => (y3x i k q1x).trans ((f1x i k (by omega)).trans (z4x i k q1x q2x q3x q4x))
                  have i2x : ImgV (fun x => J2x 358 (1400 * 4 + x)) v P a := by
                    have e : (fun x => J2x 358 (1400 * 4 + x)) = fun x => J 358 (1400 * 4 + x) := funext (fun x => (y3x 358 _ (by omega)).trans (f1x 358 _ (by omega)))
                    rw [e]; exact z3x
                  have p2x : ∀ x, J2x 348 x = P x := fun x => (fr2x 348 x (by omega) (by omega) (by omega) (by omega)).trans (hP x)
                  have vzz : vz Z.1 := (hz.x13.x13).agr di.2.1
                  obtain ⟨d1x, d2x, d3x⟩ := cq.img y1x p2x hz vzz hp hp i2x
                  obtain ⟨-, -, -, d4x⟩ := cq
                  refine ih J3x M2x d1x (fun k q => (d4x 309 k (fun p hp e => (cel_out p hp).2 e.symm) (Or.inl (by decide))).trans (y2x k q)) ?_ (fun i k q1x q2x q3x q4x => ?_) (fun p q r1x r2x => (y4x p q r1x r2x).trans (z5x p q r1x r2x))
                  · have e : (fun x => J3x 358 (1400 * 4 + x)) = fun x => J2x 358 (1400 * 4 + x) := funext (fun x => d4x 358 _ (fun p hp e => by have := cel_out p hp; omega) (Or.inl (by decide)))
                    rw [e]; exact i2x
                  · by_cases e1x : i = 348
                    · rw [e1x]; exact (d2x k).trans (hP k).symm
                    · by_cases e2x : i = 290 ∧ k = 71
                      · rw [e2x.1, e2x.2]; exact d3x.trans h71x.symm
                      · exact (d4x i k (fun p hp e => by have := cel_out p hp; omega) (by omega)).trans (fr2x i k q1x q2x q3x q4x)
              · refine e_iload rfl rfl ?_
                refine e_iload rfl rfl ?_
                refine e_cge_t rfl (Int32.le_refl _) ?_
                refine e_aload rfl rfl ?_
                refine e_getR rfl hM.1 (show R 290 1 = some 291 from (hM.2 0 _ rfl).2) ?_
                refine e_ipush rfl ?_
                refine e_iload rfl rfl ?_
                refine e_iasJ (t := 13) (n := 14) rfl (show sh[291]? = some (20, 14) from (hM.2 0 _ rfl).1) rfl (by decide) (by decide) (fun J1x g1x f1x => ?_)
                refine e_iload rfl rfl ?_
                refine Eg.ret rfl (by decide) rfl (Or.inl ⟨gg, rfl, J1x, M, rfl, ?_, fun k q => (f1x 309 k (by omega)).trans (z2x k q), fun i k q1x q2x q3x q4x => (f1x i k (by omega)).trans (z4x i k q1x q2x q3x q4x), z5x⟩)
                have := z1x.up (f := 1) (by decide) g1x f1x
                rw [← h13x, xu_same] at this; exact this
            rw [s0x] at key
            exact key J0x L (hv.fr (fun i k q1x q2x q3x => c4x i k (by omega) (by omega) (by omega))) (fun k q => (c4x 309 k (by decide) (by decide) (by omega)).trans (h309x k q)) im (fun i k q1x q2x q3x q4x => by by_cases e : i = 358; (rw [e]; exact c3x k (by omega)); exact c4x i k e q2x q4x) (fun _ _ _ _ => rfl)
          · replace b49x := yn_0.mp b49x
            refine e_ipush rfl ?_
            exact Eg.ret rfl (by decide) rfl (Or.inr ⟨fun q => b49x q.2.2.2.2, rfl, rfl⟩)
end DM
