/-! THE TAPE, the other side: read along its bytes -/
section MT
variable {X : xX} {h : xH} {sh : List (Nat × Nat)} {I : Nat → Nat → Int32} {L : Nat → Nat → Int64} {R : Nat → Nat → Option Nat} {B : Nat → Nat} {n : Nat}
theorem by_all : ∀ b, b < 256 → (Int8.ofNat b).toInt32 &&& 255 = nI b ∧ ((Int8.ofNat b).toInt32 < 97 ↔ ¬ (97 ≤ b ∧ b < 128)) ∧ (122 < (Int8.ofNat b).toInt32 ↔ (122 < b ∧ b < 128)) := by decide +kernel
theorem by_low7 : ∀ c, c < 128 → (Int8.ofNat c).toInt32 = nI c ∧ nI c &&& 255 = nI c := by decide +kernel
theorem by_eq {b c : Nat} (hb : b < 256) (hc : c < 128) : (Int8.ofNat b).toInt32 = nI c ↔ b = c := by
  constructor
  · intro e
    have h := (by_all b hb).1
    rw [e, (by_low7 c hc).2] at h
    exact ((nI_eq (by omega) (by omega)).mp h).symm
  · intro e; subst e; exact (by_low7 b hc).1
/-- the other side's bytes -/
def MB (I : Nat → Nat → Int32) (B : Nat → Nat) (n : Nat) : Prop := n ≤ 400 ∧ I 290 47 = nI n ∧ ∀ j, j < n → B j < 256 ∧ I 337 j = (Int8.ofNat (B j)).toInt32
/-- it stands at the place p, the first fault is f -/
def Mr (I : Nat → Nat → Int32) (B : Nat → Nat) (n p : Nat) (f : Int32) : Prop := MB I B n ∧ I 290 48 = nI p ∧ I 290 49 = f
def MF (I J : Nat → Nat → Int32) : Prop := ∀ i k, (i ≠ 290 ∨ (k ≠ 48 ∧ k ≠ 49)) → J i k = I i k
theorem MF.rf : MF I I := fun _ _ _ => rfl
theorem MF.tr {J K : Nat → Nat → Int32} (h : MF I J) (g : MF J K) : MF I K := fun i k q => (g i k q).trans (h i k q)
theorem Mr.fr {J : Nat → Nat → Int32} {p p' : Nat} {f f' : Int32} (h : Mr I B n p f) (fr : MF I J) (h1x : J 290 48 = nI p') (h2x : J 290 49 = f') : Mr J B n p' f' :=
  ⟨⟨h.1.1, (fr 290 47 (by decide)).trans h.1.2.1, fun j hj => ⟨(h.1.2.2 j hj).1, (fr 337 j (Or.inl (by decide))).trans (h.1.2.2 j hj).2⟩⟩, h1x, h2x⟩
theorem Mr.any {J : Nat → Nat → Int32} {p : Nat} {f : Int32} (h : Mr I B n p f) (e1x : ∀ k, k = 47 ∨ k = 48 ∨ k = 49 → J 290 k = I 290 k) (e2x : ∀ k, J 337 k = I 337 k) : Mr J B n p f :=
  ⟨⟨h.1.1, (e1x 47 (by omega)).trans h.1.2.1, fun j hj => ⟨(h.1.2.2 j hj).1, (e2x j).trans (h.1.2.2 j hj).2⟩⟩, (e1x 48 (by omega)).trans h.2.1, (e1x 49 (by omega)).trans h.2.2⟩
/-- the sign there: -1 behind the end -/
def sgM (B : Nat → Nat) (n p : Nat) : Int32 := if p < n then nI (B p) else -1
def dgM (B : Nat → Nat) (n p : Nat) : Bool := decide (p < n ∧ isD (B p) = true)
theorem dgM_iff {p : Nat} : dgM B n p = true ↔ p < n ∧ isD (B p) = true := decide_eq_true_iff
theorem sgM_eq {p c : Nat} (hB : ∀ j, j < n → B j < 256) (hc : c < 256) : sgM B n p = nI c ↔ p < n ∧ B p = c := by
  unfold sgM
  by_cases h : p < n
  · rw [if_pos h, nI_eq (by have := hB p h; omega) (by omega)]; exact ⟨fun e => ⟨h, e⟩, fun e => e.2⟩
  · rw [if_neg h]
    exact ⟨fun e => absurd e.symm (nI_m1' (by omega)), fun e => absurd e.1 h⟩
theorem ms_sign (hM : MW sh R) {p : Nat} {f : Int32} (hr : Mr I B n p f) (hp : p ≤ 1000) : Ec X 1 196 [.ref 290] (sh, I, L, R) (fun r h' => r = some (.int (sgM B n p)) ∧ h' = (sh, I, L, R)) := by
  obtain ⟨hB, h48x, h49x⟩ := id hr
  have hn := hB.1
  have hbb := hB.2.2
  refine Ec.of (Nat.le_of_ble_eq_true rfl) ?_
  refine e_aload rfl rfl ?_
  refine e_getIv rfl hM.1 h48x ?_
  refine e_aload rfl rfl ?_
  refine e_getIv rfl hM.1 hB.2.1 ?_
  refine e_cge_b rfl (fun b8x => ?_) (fun b8x => ?_)
  · have b8x := (nI_lei (by omega) (by omega)).mp b8x
    refine e_ipush rfl ?_
    exact Eg.ret rfl (by decide) rfl ⟨congrArg (fun z => some (Value.int z)) (if_neg (by omega)).symm, rfl⟩
  · have b8x := nle (by omega) (by omega) b8x
    refine e_aload rfl rfl ?_
    refine e_getR rfl hM.1 (show R 290 58 = some 337 from (hM.2 46 _ rfl).2) ?_
    refine e_aload rfl rfl ?_
    refine e_getIv rfl hM.1 h48x ?_
    refine e_balv (t := p) (n := 400) rfl (show sh[337]? = some (23, 400) from (hM.2 46 _ rfl).1) rfl (by omega) (by decide) (hbb p (by omega)).2 ?_
    refine e_ipush rfl ?_
    refine e_iand rfl ?_
    rw [show ((Int8.ofNat (B p)).toInt32) &&& 255 = nI (B p) from (by_all _ (hbb p b8x).1).1]
    refine e_goto rfl ?_
    exact Eg.ret rfl (by decide) rfl ⟨congrArg (fun z => some (Value.int z)) (if_pos b8x).symm, rfl⟩
theorem ms_blanks_loop (hM : MW sh R) {f : Int32} : ∀ (k p : Nat) (J : Nat → Nat → Int32), (p + k = n ∨ (n ≤ p ∧ k = 0)) → p ≤ 1000 → Mr J B n p f → Eg X xTc 1 197 0 [(0, .ref 290)] [] (sh, J, L, R) (fun r h' => r = none ∧ ∃ K : Nat → Nat → Int32, h' = (sh, K, L, R) ∧ Mr K B n (scan (fun i => decide (B i = 32)) (k) (p)) f ∧ MF J K ∧ K 290 49 = J 290 49) := by
  intro k
  induction k with
  | zero =>
    intro p J hk hp hr
    obtain ⟨hB, h48x, h49x⟩ := id hr
    have hn := hB.1
    refine e_aload rfl rfl ?_
    refine Eg.p1 rfl (by decide) (by decide) rfl (Nat.le_of_ble_eq_true rfl) (xrcv_of rfl hM.1 rfl) ((ms_sign hM hr hp).mono (by decide)) ?_
    refine e_ipush rfl ?_
    refine e_cne_t rfl (fun q => absurd ((sgM_eq (c := 32) (fun j hj => (hB.2.2 j hj).1) (by decide)).mp q).1 (by omega)) ?_
    exact Eg.ret rfl (by decide) rfl ⟨rfl, J, rfl, by exact hr, MF.rf, rfl⟩
  | succ k ih =>
    intro p J hk hp hr
    obtain ⟨hB, h48x, h49x⟩ := id hr
    have hn := hB.1
    have hb := (hB.2.2 p (by omega)).1
    by_cases e : B p = 32
    · refine e_aload rfl rfl ?_
      refine Eg.p1 rfl (by decide) (by decide) rfl (Nat.le_of_ble_eq_true rfl) (xrcv_of rfl hM.1 rfl) ((ms_sign hM hr hp).mono (by decide)) ?_
      refine e_ipush rfl ?_
      refine e_cne_f rfl ((sgM_eq (c := 32) (fun j hj => (hB.2.2 j hj).1) (by decide)).mpr ⟨by omega, e⟩) ?_
      refine e_aload rfl rfl ?_
      refine e_dupr rfl ?_
      refine e_getIv rfl hM.1 h48x ?_
      refine e_ipush rfl ?_
      refine e_iadd rfl ?_
      rw [show (nI p) + 1 = nI (p + 1) from nI_1 p]
      refine e_putIJ rfl hM.1 (fun J1x g1x f1x => ?_)
      refine e_goto rfl ?_
      refine Eg.imp (ih (p + 1) J1x (by omega) (by omega) (hr.fr (fun i k q => f1x i k (by omega)) g1x ((f1x 290 49 (by decide)).trans h49x))) ?_
      rintro r h' ⟨rfl, K, rfl, a1x, a2x, a3x⟩
      exact ⟨rfl, K, rfl, by rw [scan_t (f := fun i => decide (B i = 32)) (decide_eq_true e)]; exact a1x, fun i k q => (a2x i k q).trans (f1x i k (by omega)), a3x.trans (f1x 290 49 (by decide))⟩
    · refine e_aload rfl rfl ?_
      refine Eg.p1 rfl (by decide) (by decide) rfl (Nat.le_of_ble_eq_true rfl) (xrcv_of rfl hM.1 rfl) ((ms_sign hM hr hp).mono (by decide)) ?_
      refine e_ipush rfl ?_
      refine e_cne_t rfl (fun q => e ((sgM_eq (c := 32) (fun j hj => (hB.2.2 j hj).1) (by decide)).mp q).2) ?_
      exact Eg.ret rfl (by decide) rfl ⟨rfl, J, rfl, by rw [scan_f (f := fun i => decide (B i = 32)) (decide_eq_false e)]; exact hr, MF.rf, rfl⟩
theorem ms_blanks (hM : MW sh R) {p : Nat} {f : Int32} (hr : Mr I B n p f) (hp : p ≤ 1000) : Ec X 2 197 [.ref 290] (sh, I, L, R) (fun r h' => r = none ∧ ∃ J : Nat → Nat → Int32, h' = (sh, J, L, R) ∧ Mr J B n (skp B n p) (f) ∧ MF I J) := by
  refine Ec.of (Nat.le_of_ble_eq_true rfl) ?_
  refine Eg.imp (ms_blanks_loop hM (n - p) p I (by omega) hp hr) ?_
  rintro r h' ⟨rfl, K, rfl, a1x, a2x, a3x⟩
  exact ⟨rfl, K, rfl, a1x, a2x⟩
theorem ms_isDigit (hM : MW sh R) {p : Nat} {f : Int32} (hr : Mr I B n p f) (hp : p ≤ 1000) : Ec X 2 198 [.ref 290] (sh, I, L, R) (fun r h' => r = some (.int (yn (dgM B n p = true))) ∧ h' = (sh, I, L, R)) := by
  obtain ⟨hB, h48x, h49x⟩ := id hr
  have hn := hB.1
  have hbb := hB.2.2
  refine Ec.of (Nat.le_of_ble_eq_true rfl) ?_
  refine e_aload rfl rfl ?_
  refine Eg.p1 rfl (by decide) (by decide) rfl (Nat.le_of_ble_eq_true rfl) (xrcv_of rfl hM.1 rfl) ((ms_sign hM hr hp).mono (by decide)) ?_
  refine e_i2l rfl ?_
  refine e_lpush rfl ?_
  refine e_lpush rfl ?_
  refine Eg.p3 rfl (by decide) (by decide) rfl (Nat.le_of_ble_eq_true rfl) (xrcv_ofs (Or.inl rfl)) ((ms_inv (x := (sgM B n p)) (y := 48) (z := 57) rfl (by decide) (by decide)).mono (by decide)) ?_
  refine Eg.retZ rfl yn_01 ⟨congrArg (fun z => some (Value.int z)) (yn_iff ?_), rfl⟩
  rw [dgM_iff, isD_iff]
  unfold sgM
  by_cases h : p < n
  · have := (hbb p h).1
    rw [if_pos h]
    constructor
    · intro q; exact ⟨h, nlt (b := 48) (by omega) (by decide) (fun r => q (Or.inl r)), nlt (a := 57) (by decide) (by omega) (fun r => q (Or.inr r))⟩
    · intro q r; rcases r with r | r
      · have := (nI_lti (b := 48) (by omega) (by decide)).mp r; omega
      · have := (nI_lti (a := 57) (by decide) (by omega)).mp r; omega
  · rw [if_neg h]; exact ⟨fun q => absurd (Or.inl (by decide)) q, fun q => absurd q.1 h⟩
theorem ms_fails (hM : MW sh R) {p : Nat} {f : Int32} (hr : Mr I B n p f) {k q : Nat} : Ec X 1 195 [.ref 290, .int (nI k), .int (nI q)] (sh, I, L, R) (fun r h' => r = none ∧ ∃ J : Nat → Nat → Int32, h' = (sh, J, L, R) ∧ Mr J B n (p) (fl f q k) ∧ MF I J) := by
  obtain ⟨hB, h48x, h49x⟩ := id hr
  have hn := hB.1
  have hbb := hB.2.2
  refine Ec.of (Nat.le_of_ble_eq_true rfl) ?_
  refine e_aload rfl rfl ?_
  refine e_aload rfl rfl ?_
  refine e_getIv rfl hM.1 h49x ?_
  refine e_ifne_b rfl (fun b5x => ?_) (fun b5x => ?_)
  · refine e_aload rfl rfl ?_
    refine e_getIv rfl hM.1 h49x ?_
    refine e_putIJ rfl hM.1 (fun J1x g1x f1x => ?_)
    have fr : MF I J1x := fun i k q => f1x i k (by omega)
    exact Eg.ret rfl (by decide) rfl ⟨rfl, J1x, rfl, hr.fr fr ((f1x 290 48 (by decide)).trans h48x) (g1x.trans (show _ = fl f q k from (if_neg b5x).symm)), fr⟩
  · refine e_ipush rfl ?_
    refine e_ipush rfl ?_
    refine e_iload rfl rfl ?_
    refine e_imul rfl ?_
    rw [show 8 * (nI q) = nI (8 * q) from nI_times 8 q]
    refine e_iadd rfl ?_
    rw [show 1 + (nI (8 * q)) = nI (1 + 8 * q) from nI_add 1 _]
    refine e_iload rfl rfl ?_
    refine e_iadd rfl ?_
    rw [show (nI (1 + 8 * q)) + (nI k) = nI (1 + 8 * q + k) from nI_add _ k]
    refine e_goto rfl ?_
    refine e_putIJ rfl hM.1 (fun J2x g2x f2x => ?_)
    have fr : MF I J2x := fun i k q => f2x i k (by omega)
    exact Eg.ret rfl (by decide) rfl ⟨rfl, J2x, rfl, hr.fr fr ((f2x 290 48 (by decide)).trans h48x) (g2x.trans (show _ = fl f q k from (if_pos b5x).symm)), fr⟩
/-- which word a text is -/
def txw : List Nat := [0, 0, 1, 2, 3, 4, 5, 6, 7, 9, 13, 14, 15, 16, 17, 18, 19, 20, 21, 8, 12, 11, 10]
theorem txw_ok : ∀ j, j < 23 → 1 ≤ j → txw.getD j 0 < 22 ∧ xlen.getD j 0 = wln (txw.getD j 0) ∧ ∀ i, i < xlen.getD j 0 → chr j i = nI (wch (txw.getD j 0) i) ∧ wch (txw.getD j 0) i < 128 := by decide +kernel
/-- the word w stands at p -/
def wIs (B : Nat → Nat) (n p w : Nat) : Bool := decide (lend B n p - p = wln w) && (List.range (wln w)).all (fun i => decide (B (p + i) = wch w i))
theorem wIs_iff {p w : Nat} : wIs B n p w = true ↔ wAt B p (lend B n p) w := by
  unfold wIs
  rw [Bool.and_eq_true, List.all_eq_true, decide_eq_true_iff]
  exact ⟨fun h => ⟨h.1, fun i hi => of_decide_eq_true (h.2 i (List.mem_range.mpr hi))⟩, fun h => ⟨h.1, fun i hi => decide_eq_true (h.2 i (List.mem_range.mp hi))⟩⟩
theorem wIs_lt {p w : Nat} (hw : w < 22) (h : wIs B n p w = true) : p < n ∧ p + wln w ≤ n ∧ p + wln w = lend B n p := by
  have := wln_bd w hw
  have e := (wIs_iff.mp h).1
  have a := scan_ge (f := fun i => isL (B i)) (n - p) p
  have b : p ≤ lend B n p ∧ lend B n p ≤ p + (n - p) := a
  omega
theorem ms_stood (hM : MW sh R) {p : Nat} {f : Int32} (hr : Mr I B n p f) (hp : p ≤ 1000) {j w : Nat} (hj : j < 23) (hj1x : 1 ≤ j) (hw : txw.getD j 0 = w) : Ec X 5 199 [.ref 290, .retAddr (j + 1)] (sh, I, L, R) (fun r h' => r = some (.int (yn (wIs B n p w = true))) ∧ h' = (sh, I, L, R)) := by
  obtain ⟨t1x, t2x, t3x⟩ := txw_ok j hj hj1x
  rw [hw] at t1x t2x t3x
  have wb := wln_bd w t1x
  obtain ⟨hB, h48x, h49x⟩ := id hr
  have hn := hB.1
  have hbb := hB.2.2
  refine Ec.of (Nat.le_of_ble_eq_true rfl) ?_
  refine e_aload rfl rfl ?_
  refine e_getIv rfl hM.1 h48x ?_
  refine e_istore rfl ?_
  refine Eg.pk [0, 1, 2] [2, 0, 1] rfl (by decide) ?_
  have lp : ∀ k e, (e + k = n ∨ (n ≤ e ∧ k = 0)) → e ≤ 1000 → Eg X xTc 4 199 41 [(0, .ref 290), (1, .retAddr (j + 1)), (2, .int (nI (scan (fun i => isL (B i)) k e)))] [] (sh, I, L, R) (fun r h' => r = some (.int (yn (wIs B n p w = true))) ∧ h' = (sh, I, L, R)) → Eg X xTc 4 199 5 [(0, .ref 290), (1, .retAddr (j + 1)), (2, .int (nI e))] [] (sh, I, L, R) (fun r h' => r = some (.int (yn (wIs B n p w = true))) ∧ h' = (sh, I, L, R)) := by
    intro k
    induction k with
    | zero =>
      intro e he h9x kk
      refine e_iload rfl rfl ?_
      refine e_aload rfl rfl ?_
      refine e_getIv rfl hM.1 hB.2.1 ?_
      refine e_cge_t rfl ((nI_lei (by omega) (by omega)).mpr (by omega)) ?_
      exact kk
    | succ k ih =>
      intro e he h9x kk
      have hbe := (hbb e (by omega)).1
      have ba := by_all _ hbe
      refine e_iload rfl rfl ?_
      refine e_aload rfl rfl ?_
      refine e_getIv rfl hM.1 hB.2.1 ?_
      refine e_cge_f rfl (nI_ge (by omega) (by omega)) ?_
      refine e_aload rfl rfl ?_
      refine e_getR rfl hM.1 (show R 290 58 = some 337 from (hM.2 46 _ rfl).2) ?_
      refine e_iload rfl rfl ?_
      refine e_balv (t := e) (n := 400) rfl (show sh[337]? = some (23, 400) from (hM.2 46 _ rfl).1) rfl (by omega) (by decide) (hbb e (by omega)).2 ?_
      refine e_ipush rfl ?_
      refine e_clt_b rfl (fun b21x => ?_) (fun b21x => ?_)
      · rw [scan_f (f := fun i => isL (B i)) (Bool.eq_false_iff.mpr (fun q => absurd (isL_iff.mp q) (fun r => (ba.2.1.mp b21x) ⟨r.1, by omega⟩)))] at kk
        exact kk
      · refine e_aload rfl rfl ?_
        refine e_getR rfl hM.1 (show R 290 58 = some 337 from (hM.2 46 _ rfl).2) ?_
        refine e_iload rfl rfl ?_
        refine e_balv (t := e) (n := 400) rfl (show sh[337]? = some (23, 400) from (hM.2 46 _ rfl).1) rfl (by omega) (by decide) (hbb e (by omega)).2 ?_
        refine e_ipush rfl ?_
        refine e_cgt_b rfl (fun b32x => ?_) (fun b32x => ?_)
        · rw [scan_f (f := fun i => isL (B i)) (Bool.eq_false_iff.mpr (fun q => absurd (isL_iff.mp q) (fun r => by have := ba.2.2.mp b32x; omega)))] at kk
          exact kk
        · refine e_iinc rfl rfl ?_
          refine e_goto rfl ?_
          refine Eg.pk [0, 1, 2] [2, 0, 1] rfl (by decide) ?_
          rw [nI_1]
          refine ih (e + 1) (by omega) (by omega) ?_
          have hl : isL (B e) = true := isL_iff.mpr (Decidable.byContradiction (fun q => by
            by_cases r1x : 97 ≤ B e ∧ B e < 128
            · exact b32x (ba.2.2.mpr (by omega))
            · exact b21x (ba.2.1.mpr r1x)))
          rw [scan_t (f := fun i => isL (B i)) hl] at kk
          exact kk
  refine lp (n - p) p (by omega) hp ?_
  change Eg X xTc 4 199 41 [(0, .ref 290), (1, .retAddr (j + 1)), (2, .int (nI (lend B n p)))] [] _ _
  have hle := scan_ge (f := fun i => isL (B i)) (n - p) p
  have hle : p ≤ lend B n p ∧ lend B n p ≤ p + (n - p) := hle
  by_cases hl : lend B n p - p = wln w
  · have hin : ∀ i, i < wln w → p + i < n := fun i hi => by omega
    refine e_iload rfl rfl ?_
    refine e_aload rfl rfl ?_
    refine e_getIv rfl hM.1 h48x ?_
    refine e_isub rfl ?_
    rw [show (nI (lend B n p)) - (nI p) = nI (lend B n p - p) from nI_sub (by omega)]
    refine e_aloadq rfl rfl ?_
    refine Eg.p1 rfl (by decide) (by decide) rfl (Nat.le_of_ble_eq_true rfl) (xrcv_oft rfl (by omega)) ((tx_len hj).mono (by decide)) ?_
    rw [t2x]
    refine e_cne_f rfl (by rw [hl]) ?_
    refine e_ipush rfl ?_
    refine e_goto rfl ?_
    refine e_istore rfl ?_
    refine e_ipush rfl ?_
    refine e_istore rfl ?_
    refine Eg.pk [0, 1, 3, 4] [4, 3, 0, 1, 2] rfl (by decide) ?_
    have ex0x : (¬ wIs B n p w = true) → ∀ i, i ≤ wln w → Eg X xTc 4 199 63 [(0, .ref 290), (1, .retAddr (j + 1)), (3, .int 0), (4, .int (nI i))] [] (sh, I, L, R) (fun r h' => r = some (.int (yn (wIs B n p w = true))) ∧ h' = (sh, I, L, R)) := by
      intro hx i hi
      refine e_iload rfl rfl ?_
      refine e_aloadq rfl rfl ?_
      refine Eg.p1 rfl (by decide) (by decide) rfl (Nat.le_of_ble_eq_true rfl) (xrcv_oft rfl (by omega)) ((tx_len hj).mono (by decide)) ?_
      rw [t2x]
      refine e_cge_b rfl (fun b69x => ?_) (fun b69x => ?_)
      · refine e_iload rfl rfl ?_
        exact Eg.retZ rfl (Or.inl rfl) ⟨congrArg (fun z => some (Value.int z)) (yn_f hx).symm, rfl⟩
      · refine e_iload rfl rfl ?_
        refine e_ifeq_t rfl rfl ?_
        refine e_iload rfl rfl ?_
        exact Eg.retZ rfl (Or.inl rfl) ⟨congrArg (fun z => some (Value.int z)) (yn_f hx).symm, rfl⟩
    refine up_ind (p := fun i => (∀ t, t < i → B (p + t) = wch w t) → Eg X xTc 4 199 63 [(0, .ref 290), (1, .retAddr (j + 1)), (3, .int 1), (4, .int (nI i))] [] (sh, I, L, R) (fun r h' => r = some (.int (yn (wIs B n p w = true))) ∧ h' = (sh, I, L, R))) (n := wln w) (j := 0) (fun i hi ih => ?_) ?_ (Nat.zero_le _) (fun t ht => absurd ht (by omega))
    · intro hm
      have hbi := (hbb (p + i) (hin i hi)).1
      have hch := (t3x i (by omega)).2
      refine e_iload rfl rfl ?_
      refine e_aloadq rfl rfl ?_
      refine Eg.p1 rfl (by decide) (by decide) rfl (Nat.le_of_ble_eq_true rfl) (xrcv_oft rfl (by omega)) ((tx_len hj).mono (by decide)) ?_
      rw [t2x]
      refine e_cge_f rfl (nI_ge hi (by omega)) ?_
      refine e_iload rfl rfl ?_
      refine e_ifeq_f rfl (by decide) ?_
      refine e_aload rfl rfl ?_
      refine e_getR rfl hM.1 (show R 290 58 = some 337 from (hM.2 46 _ rfl).2) ?_
      refine e_aload rfl rfl ?_
      refine e_getIv rfl hM.1 h48x ?_
      refine e_iload rfl rfl ?_
      refine e_iadd rfl ?_
      rw [show (nI p) + (nI i) = nI (p + i) from nI_add _ _]
      refine e_balv (t := p + i) (n := 400) rfl (show sh[337]? = some (23, 400) from (hM.2 46 _ rfl).1) rfl (by omega) (by decide) (hbb (p + i) (hin i hi)).2 ?_
      refine e_aloadq rfl rfl ?_
      refine e_iload rfl rfl ?_
      refine Eg.p2 rfl (by decide) (by decide) rfl (Nat.le_of_ble_eq_true rfl) (xrcv_oft rfl (by omega)) ((tx_at hj (i := i) (by omega)).mono (by decide)) ?_
      rw [(t3x i (by omega)).1]
      refine e_cne_b rfl (fun b94x => ?_) (fun b94x => ?_)
      · refine e_ipush rfl ?_
        refine e_istore rfl ?_
        refine e_iinc rfl rfl ?_
        refine e_goto rfl ?_
        refine Eg.pk [0, 1, 3, 4] [4, 3, 0, 1] rfl (by decide) ?_
        rw [nI_1]
        exact ex0x (fun q => b94x ((by_eq hbi hch).mpr ((wIs_iff.mp q).2 i hi))) (i + 1) (by omega)
      · refine e_ipush rfl ?_
        refine e_goto rfl ?_
        refine e_istore rfl ?_
        refine e_iinc rfl rfl ?_
        refine e_goto rfl ?_
        refine Eg.pk [0, 1, 3, 4] [4, 3, 0, 1] rfl (by decide) ?_
        rw [nI_1]
        exact ih (lt_snoc hm ((by_eq hbi hch).mp b94x))
    · intro hm
      refine e_iload rfl rfl ?_
      refine e_aloadq rfl rfl ?_
      refine Eg.p1 rfl (by decide) (by decide) rfl (Nat.le_of_ble_eq_true rfl) (xrcv_oft rfl (by omega)) ((tx_len hj).mono (by decide)) ?_
      rw [t2x]
      refine e_cge_t rfl (Int32.le_refl _) ?_
      refine e_iload rfl rfl ?_
      exact Eg.retZ rfl (Or.inr rfl) ⟨congrArg (fun z => some (Value.int z)) (yn_t (wIs_iff.mpr ⟨hl, hm⟩)).symm, rfl⟩
  · refine e_iload rfl rfl ?_
    refine e_aload rfl rfl ?_
    refine e_getIv rfl hM.1 h48x ?_
    refine e_isub rfl ?_
    rw [show (nI (lend B n p)) - (nI p) = nI (lend B n p - p) from nI_sub (by omega)]
    refine e_aloadq rfl rfl ?_
    refine Eg.p1 rfl (by decide) (by decide) rfl (Nat.le_of_ble_eq_true rfl) (xrcv_oft rfl (by omega)) ((tx_len hj).mono (by decide)) ?_
    rw [t2x]
    refine e_cne_t rfl (fun q => hl ((nI_eq (by omega) (by omega)).mp q)) ?_
    refine e_ipush rfl ?_
    refine e_istore rfl ?_
    refine e_ipush rfl ?_
    refine e_istore rfl ?_
    refine e_iload rfl rfl ?_
    refine e_aloadq rfl rfl ?_
    refine Eg.p1 rfl (by decide) (by decide) rfl (Nat.le_of_ble_eq_true rfl) (xrcv_oft rfl (by omega)) ((tx_len hj).mono (by decide)) ?_
    rw [t2x]
    refine e_cge_f rfl (nI_ge (a := 0) (by omega) (by omega)) ?_
    refine e_iload rfl rfl ?_
    refine e_ifeq_t rfl rfl ?_
    refine e_iload rfl rfl ?_
    exact Eg.retZ rfl (Or.inl rfl) ⟨congrArg (fun z => some (Value.int z)) (yn_f (fun q => hl (wIs_iff.mp q).1)).symm, rfl⟩
end MT
