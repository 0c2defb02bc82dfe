/-! THE TAPE, the one side: cut into tokens -/
section TA
variable {X : xX} {h : xH} {sh : List (Nat × Nat)} {I : Nat → Nat → Int32} {L : Nat → Nat → Int64} {R : Nat → Nat → Option Nat} {B : Nat → Nat} {n : Nat}
def TpAt (sh : List (Nat × Nat)) (R : Nat → Nat → Option Nat) : Prop := sh[1]? = some (9, 8) ∧ sh[2]? = some (20, 400) ∧ sh[3]? = some (20, 401) ∧ sh[4]? = some (20, 401) ∧ sh[5]? = some (20, 401) ∧ R 1 0 = some 2 ∧ R 1 3 = some 3 ∧ R 1 4 = some 4 ∧ R 1 5 = some 5
def TpB (I : Nat → Nat → Int32) (B : Nat → Nat) (n : Nat) : Prop := n ≤ 400 ∧ I 1 1 = nI n ∧ ∀ j, j < n → I 2 j = nI (B j) ∧ B j < 256
theorem TpB.fr {J : Nat → Nat → Int32} (h : TpB I B n) (e1x : J 1 1 = I 1 1) (e2x : ∀ k, J 2 k = I 2 k) : TpB J B n := ⟨h.1, e1x.trans h.2.1, fun j hj => ⟨(e2x j).trans (h.2.2 j hj).1, (h.2.2 j hj).2⟩⟩
theorem nlt {a b : Nat} (ha : a < 2 ^ 31) (hb : b < 2 ^ 31) (h : ¬ nI a < nI b) : b ≤ a := Nat.le_of_not_lt (fun q => h ((nI_lti ha hb).mpr q))
theorem nle {a b : Nat} (ha : a < 2 ^ 31) (hb : b < 2 ^ 31) (h : ¬ nI a ≤ nI b) : b < a := Nat.lt_of_not_le (fun q => h ((nI_lei ha hb).mpr q))
theorem cs_isLetter {c : Nat} (hc : c < 2 ^ 31) : Ec X 1 113 [.int (nI c)] h (fun r h' => r = some (.int (yn (isL c = true))) ∧ h' = h) := by
  refine Ec.of (Nat.le_of_ble_eq_true rfl) ?_
  refine e_iload rfl rfl ?_
  refine e_ipush rfl ?_
  refine e_clt_b rfl (fun b3x => ?_) (fun b3x => ?_)
  · refine e_ipush rfl ?_
    exact Eg.ret rfl (by decide) rfl ⟨congrArg (fun z => some (Value.int z)) (yn_f (fun q => absurd ((nI_lti (b := 97) (by omega) (by decide)).mp b3x) (by have := isL_iff.mp q; omega))).symm, rfl⟩
  · refine e_iload rfl rfl ?_
    refine e_ipush rfl ?_
    refine e_cgt_b rfl (fun b9x => ?_) (fun b9x => ?_)
    · refine e_ipush rfl ?_
      exact Eg.ret rfl (by decide) rfl ⟨congrArg (fun z => some (Value.int z)) (yn_f (fun q => absurd ((nI_lti (a := 122) (by decide) (by omega)).mp b9x) (by have := isL_iff.mp q; omega))).symm, rfl⟩
    · refine e_ipush rfl ?_
      refine e_goto rfl ?_
      exact Eg.ret rfl (by decide) rfl ⟨congrArg (fun z => some (Value.int z)) (yn_t (isL_iff.mpr ⟨nlt (b := 97) (by omega) (by decide) b3x, nlt (a := 122) (by decide) (by omega) b9x⟩)).symm, rfl⟩
theorem cs_isDigit {c : Nat} (hc : c < 2 ^ 31) : Ec X 1 114 [.int (nI c)] h (fun r h' => r = some (.int (yn (isD c = true))) ∧ h' = h) := by
  refine Ec.of (Nat.le_of_ble_eq_true rfl) ?_
  refine e_iload rfl rfl ?_
  refine e_ipush rfl ?_
  refine e_clt_b rfl (fun b3x => ?_) (fun b3x => ?_)
  · refine e_ipush rfl ?_
    exact Eg.ret rfl (by decide) rfl ⟨congrArg (fun z => some (Value.int z)) (yn_f (fun q => absurd ((nI_lti (b := 48) (by omega) (by decide)).mp b3x) (by have := isD_iff.mp q; omega))).symm, rfl⟩
  · refine e_iload rfl rfl ?_
    refine e_ipush rfl ?_
    refine e_cgt_b rfl (fun b9x => ?_) (fun b9x => ?_)
    · refine e_ipush rfl ?_
      exact Eg.ret rfl (by decide) rfl ⟨congrArg (fun z => some (Value.int z)) (yn_f (fun q => absurd ((nI_lti (a := 57) (by decide) (by omega)).mp b9x) (by have := isD_iff.mp q; omega))).symm, rfl⟩
    · refine e_ipush rfl ?_
      refine e_goto rfl ?_
      exact Eg.ret rfl (by decide) rfl ⟨congrArg (fun z => some (Value.int z)) (yn_t (isD_iff.mpr ⟨nlt (b := 48) (by omega) (by decide) b3x, nlt (a := 57) (by decide) (by omega) b9x⟩)).symm, rfl⟩
theorem cs_lettersEnd_loop (hT : TpAt sh R) (hB : TpB I B n) {x : Int32} : ∀ k p, p + k = n → Eg X xTc 1 115 2 [(0, .ref 1), (1, .int x), (2, .int (nI p))] [] (sh, I, L, R) (fun r h' => r = some (.int (nI (scan (fun i => isL (B i)) k p))) ∧ h' = (sh, I, L, R)) := by
  have hn := hB.1
  intro k
  induction k with
  | zero =>
    intro p hp
    refine e_iload rfl rfl ?_
    refine e_aload rfl rfl ?_
    refine e_getIv rfl hT.1 hB.2.1 ?_
    refine e_cge_t rfl ((nI_lei (by omega) (by omega)).mpr (by omega)) ?_
    refine e_iload rfl rfl ?_
    exact Eg.ret rfl (by decide) rfl ⟨rfl, rfl⟩
  | succ k ih =>
    intro p hp
    have hc := (hB.2.2 p (by omega)).2
    refine e_iload rfl rfl ?_
    refine e_aload rfl rfl ?_
    refine e_getIv rfl hT.1 hB.2.1 ?_
    refine e_cge_f rfl (nI_ge (by omega) (by omega)) ?_
    refine e_aload rfl rfl ?_
    refine e_getR rfl hT.1 hT.2.2.2.2.2.1 ?_
    refine e_iload rfl rfl ?_
    refine e_ialv (t := p) (n := 400) rfl hT.2.1 rfl (by omega) (by decide) (hB.2.2 p (by omega)).1 ?_
    refine Eg.p1 rfl (by decide) (by decide) rfl (Nat.le_of_ble_eq_true rfl) (xrcv_ofs (Or.inl rfl)) ((cs_isLetter (c := B p) (by omega)).mono (by decide)) ?_
    refine e_ifeq_b rfl (fun b19x => ?_) (fun b19x => ?_)
    · replace b19x := yn_0.mp b19x
      refine e_iload rfl rfl ?_
      exact Eg.ret rfl (by decide) rfl ⟨by rw [scan_f (f := (fun i => isL (B i))) (Bool.eq_false_iff.mpr b19x)], rfl⟩
    · replace b19x := yn_n0.mp b19x
      refine e_iinc rfl rfl ?_
      refine e_goto rfl ?_
      refine Eg.pk [0, 1, 2] [2, 0, 1] rfl (by decide) ?_
      rw [nI_1, scan_t (f := (fun i => isL (B i))) b19x]
      exact ih (p + 1) (by omega)
theorem cs_lettersEnd (hT : TpAt sh R) (hB : TpB I B n) {p : Nat} (hp : p ≤ n) : Ec X 2 115 [.ref 1, .int (nI p)] (sh, I, L, R) (fun r h' => r = some (.int (nI (lend B n p))) ∧ h' = (sh, I, L, R)) := by
  refine Ec.of (Nat.le_of_ble_eq_true rfl) ?_
  refine e_iload rfl rfl ?_
  refine e_istore rfl ?_
  refine Eg.pk [0, 1, 2] [2, 0, 1] rfl (by decide) ?_
  exact cs_lettersEnd_loop hT hB (n - p) p (by omega)
theorem cs_digitsEnd_loop (hT : TpAt sh R) (hB : TpB I B n) {x : Int32} : ∀ k p, p + k = n → Eg X xTc 1 116 2 [(0, .ref 1), (1, .int x), (2, .int (nI p))] [] (sh, I, L, R) (fun r h' => r = some (.int (nI (scan (fun i => isD (B i)) k p))) ∧ h' = (sh, I, L, R)) := by
  have hn := hB.1
  intro k
  induction k with
  | zero =>
    intro p hp
    refine e_iload rfl rfl ?_
    refine e_aload rfl rfl ?_
    refine e_getIv rfl hT.1 hB.2.1 ?_
    refine e_cge_t rfl ((nI_lei (by omega) (by omega)).mpr (by omega)) ?_
    refine e_iload rfl rfl ?_
    exact Eg.ret rfl (by decide) rfl ⟨rfl, rfl⟩
  | succ k ih =>
    intro p hp
    have hc := (hB.2.2 p (by omega)).2
    refine e_iload rfl rfl ?_
    refine e_aload rfl rfl ?_
    refine e_getIv rfl hT.1 hB.2.1 ?_
    refine e_cge_f rfl (nI_ge (by omega) (by omega)) ?_
    refine e_aload rfl rfl ?_
    refine e_getR rfl hT.1 hT.2.2.2.2.2.1 ?_
    refine e_iload rfl rfl ?_
    refine e_ialv (t := p) (n := 400) rfl hT.2.1 rfl (by omega) (by decide) (hB.2.2 p (by omega)).1 ?_
    refine Eg.p1 rfl (by decide) (by decide) rfl (Nat.le_of_ble_eq_true rfl) (xrcv_ofs (Or.inl rfl)) ((cs_isDigit (c := B p) (by omega)).mono (by decide)) ?_
    refine e_ifeq_b rfl (fun b19x => ?_) (fun b19x => ?_)
    · replace b19x := yn_0.mp b19x
      refine e_iload rfl rfl ?_
      exact Eg.ret rfl (by decide) rfl ⟨by rw [scan_f (f := (fun i => isD (B i))) (Bool.eq_false_iff.mpr b19x)], rfl⟩
    · replace b19x := yn_n0.mp b19x
      refine e_iinc rfl rfl ?_
      refine e_goto rfl ?_
      refine Eg.pk [0, 1, 2] [2, 0, 1] rfl (by decide) ?_
      rw [nI_1, scan_t (f := (fun i => isD (B i))) b19x]
      exact ih (p + 1) (by omega)
theorem cs_digitsEnd (hT : TpAt sh R) (hB : TpB I B n) {p : Nat} (hp : p ≤ n) : Ec X 2 116 [.ref 1, .int (nI p)] (sh, I, L, R) (fun r h' => r = some (.int (nI (dend B n p))) ∧ h' = (sh, I, L, R)) := by
  refine Ec.of (Nat.le_of_ble_eq_true rfl) ?_
  refine e_iload rfl rfl ?_
  refine e_istore rfl ?_
  refine Eg.pk [0, 1, 2] [2, 0, 1] rfl (by decide) ?_
  exact cs_digitsEnd_loop hT hB (n - p) p (by omega)
theorem cs_numberOf (hT : TpAt sh R) (hB : TpB I B n) {p q : Nat} (hpq : p ≤ q) (hq : q ≤ n) (hd : ∀ i, p ≤ i → i < q → isD (B i) = true) : Ec X 1 117 [.ref 1, .int (nI p), .int (nI q)] (sh, I, L, R) (fun r h' => r = some (.int (nmI B p q)) ∧ h' = (sh, I, L, R)) := by
  have hn := hB.1
  refine Ec.of (Nat.le_of_ble_eq_true rfl) ?_
  refine e_iload rfl rfl ?_
  refine e_iload rfl rfl ?_
  refine e_isub rfl ?_
  rw [show (nI q) - (nI p) = nI (q - p) from nI_sub hpq]
  refine e_ipush rfl ?_
  refine e_cle_b rfl (fun b4x => ?_) (fun b4x => ?_)
  · have b4x := (nI_lei (b := 5) (by omega) (by decide)).mp b4x
    refine e_ipush rfl ?_
    refine e_istore rfl ?_
    refine e_iload rfl rfl ?_
    refine e_istore rfl ?_
    refine Eg.pk [0, 1, 2, 3, 4] [4, 3, 0, 1, 2] rfl (by decide) ?_
    refine up_ind (p := fun j => Eg X xTc 0 117 14 [(0, .ref 1), (1, .int (nI p)), (2, .int (nI q)), (3, .int (nI (nmv B p j))), (4, .int (nI (p + j)))] [] (sh, I, L, R) (fun r h' => r = some (.int (nmI B p q)) ∧ h' = (sh, I, L, R))) (n := q - p) (j := 0) (fun j hj ih => ?_) ?_ (Nat.zero_le _)
    · have hdj := isD_iff.mp (hd (p + j) (by omega) (by omega))
      refine e_iload rfl rfl ?_
      refine e_iload rfl rfl ?_
      refine e_cge_f rfl (nI_ge (by omega) (by omega)) ?_
      refine e_iload rfl rfl ?_
      refine e_ipush rfl ?_
      refine e_imul rfl ?_
      rw [show (nI (nmv B p j)) * 10 = nI (nmv B p j * 10) from nI_times _ 10]
      refine e_aload rfl rfl ?_
      refine e_getR rfl hT.1 hT.2.2.2.2.2.1 ?_
      refine e_iload rfl rfl ?_
      refine e_ialv (t := p + j) (n := 400) rfl hT.2.1 rfl (by omega) (by decide) (hB.2.2 (p + j) (by omega)).1 ?_
      refine e_iadd rfl ?_
      rw [show (nI (nmv B p j * 10)) + (nI (B (p + j))) = nI (nmv B p j * 10 + B (p + j)) from nI_add _ _]
      refine e_ipush rfl ?_
      refine e_isub rfl ?_
      rw [show (nI (nmv B p j * 10 + B (p + j))) - 48 = nI (nmv B p (j + 1)) from (show _ - nI 48 = _ by rw [nI_sub (by omega), nmv, Nat.add_sub_assoc hdj.1])]
      refine e_istore rfl ?_
      refine e_iinc rfl rfl ?_
      refine e_goto rfl ?_
      refine Eg.pk [0, 1, 2, 3, 4] [4, 3, 0, 1, 2] rfl (by decide) ?_
      rw [nI_1]
      exact ih
    · rw [show p + (q - p) = q by omega]
      refine e_iload rfl rfl ?_
      refine e_iload rfl rfl ?_
      refine e_cge_t rfl (Int32.le_refl _) ?_
      refine e_iload rfl rfl ?_
      exact Eg.ret rfl (by decide) rfl ⟨congrArg (fun z => some (Value.int z)) (if_neg (by omega)).symm, rfl⟩
  · have b4x := nle (b := 5) (by omega) (by decide) b4x
    refine e_ipush rfl ?_
    exact Eg.ret rfl (by decide) rfl ⟨congrArg (fun z => some (Value.int z)) (if_pos b4x).symm, rfl⟩
/-- a text's sign -/
def chr (j i : Nat) : Int32 := (xtx.getD j []).getD i 0
theorem chr_b : ∀ j, j < 23 → ∀ i, i < xlen.getD j 0 → ((chr j i &&& 255).toUInt32 % 65536).toInt32 = chr j i ∧ (chr j i).toUInt32.toUInt16.toUInt32.toInt32 = chr j i := by decide +kernel
theorem xlen_bd : ∀ j, j < 23 → xlen.getD j 0 < 200 := by decide
theorem tx_latin {j : Nat} (hj : j < 23) : Ec X 1 318 [.retAddr (j + 1)] h (fun r h' => r = some (.int 1) ∧ h' = h) := by
  refine Ec.of (Nat.le_of_ble_eq_true rfl) ?_
  refine e_cs rfl rfl ?_
  refine e_ifeq_f rfl (by decide) ?_
  refine e_aloadq rfl rfl ?_
  refine e_tcod rfl ⟨by omega, by omega⟩ rfl ?_
  refine e_ifne_f rfl rfl ?_
  refine e_ipush rfl ?_
  refine e_goto rfl ?_
  exact Eg.ret rfl (by decide) rfl ⟨rfl, rfl⟩
theorem tx_coder {j : Nat} (hj : j < 23) : Ec X 1 317 [.retAddr (j + 1)] h (fun r h' => r = some (.int 0) ∧ h' = h) := by
  refine Ec.of (Nat.le_of_ble_eq_true rfl) ?_
  refine e_cs rfl rfl ?_
  refine e_ifeq_f rfl (by decide) ?_
  refine e_aloadq rfl rfl ?_
  refine e_tcod rfl ⟨by omega, by omega⟩ rfl ?_
  refine e_goto rfl ?_
  exact Eg.ret rfl (by decide) (show (if (0 : Int32).toInt8.toInt32 = 0 then some (some (Value.int 0), h) else none) = _ from if_pos (by decide)) ⟨rfl, rfl⟩
theorem tx_len {j : Nat} (hj : j < 23) : Ec X 2 315 [.retAddr (j + 1)] h (fun r h' => r = some (.int (nI (xlen.getD j 0))) ∧ h' = h) := by
  have hb := xlen_bd j hj
  refine Ec.of (Nat.le_of_ble_eq_true rfl) ?_
  refine e_aloadq rfl rfl ?_
  refine e_tval rfl ⟨by omega, by omega⟩ rfl ?_
  refine e_tlen rfl ⟨by omega, by omega⟩ ?_
  refine e_aloadq rfl rfl ?_
  refine Eg.p1 rfl (by decide) (by decide) rfl (Nat.le_of_ble_eq_true rfl) (xrcv_oft rfl ⟨by omega, by omega⟩) ((tx_coder hj).mono (by decide)) ?_
  refine e_ishr rfl ?_
  rw [show j + 1 + 100 - 101 = j by omega]
  refine Eg.ret rfl (by decide) rfl ⟨congrArg (fun z => some (Value.int z)) ?_, rfl⟩
  show nI (xlen.getD j 0) >>> (nI 0 &&& 31) = _
  rw [nI_shr (by omega) (by decide)]; rfl
theorem tx_chk3 {i m : Nat} {u : Value} (hu : u = .null ∨ u = .retAddr 200) (hi : i < m) (hm : m < 2 ^ 31) : Ec X 1 326 [.int (nI i), .int (nI m), u] h (fun r h' => r = some (.int (nI i)) ∧ h' = h) := by
  rcases hu with rfl | rfl
  · refine Ec.of (Nat.le_of_ble_eq_true rfl) ?_
    refine e_iload rfl rfl ?_
    refine e_iflt_f rfl (nI_pos (by omega)) ?_
    refine e_iload rfl rfl ?_
    refine e_iload rfl rfl ?_
    refine e_clt_t rfl (nI_lt hi hm) ?_
    refine e_iload rfl rfl ?_
    exact Eg.ret rfl (by decide) rfl ⟨rfl, rfl⟩
  · refine Ec.of (Nat.le_of_ble_eq_true rfl) ?_
    refine e_iload rfl rfl ?_
    refine e_iflt_f rfl (nI_pos (by omega)) ?_
    refine e_iload rfl rfl ?_
    refine e_iload rfl rfl ?_
    refine e_clt_t rfl (nI_lt hi hm) ?_
    refine e_iload rfl rfl ?_
    exact Eg.ret rfl (by decide) rfl ⟨rfl, rfl⟩
theorem tx_chk2 {i m : Nat} (hi : i < m) (hm : m < 2 ^ 31) : Ec X 2 319 [.int (nI i), .int (nI m)] h (fun r h' => r = none ∧ h' = h) := by
  refine Ec.of (Nat.le_of_ble_eq_true rfl) ?_
  refine e_iload rfl rfl ?_
  refine e_iload rfl rfl ?_
  refine e_fm rfl rfl ?_
  refine Eg.p3 rfl (by decide) (by decide) rfl (Nat.le_of_ble_eq_true rfl) (xrcv_ofs (Or.inl rfl)) ((tx_chk3 (i := i) (m := m) (by by_cases hx : X.2.2 = true <;> simp [hx]) hi hm).mono (by decide)) ?_
  refine e_pop rfl ?_
  exact Eg.ret rfl (by decide) rfl ⟨rfl, rfl⟩
theorem tx_byte {j i : Nat} (hj : j < 23) (hi : i < xlen.getD j 0) : Ec X 3 320 [.retAddr (j + 101), .int (nI i)] h (fun r h' => r = some (.int (chr j i)) ∧ h' = h) := by
  have hb := xlen_bd j hj
  obtain ⟨c1x, c2x⟩ := chr_b j hj i hi
  refine Ec.of (Nat.le_of_ble_eq_true rfl) ?_
  refine e_iload rfl rfl ?_
  refine e_aloadq rfl rfl ?_
  refine e_tlen rfl ⟨by omega, by omega⟩ ?_
  rw [show j + 101 - 101 = j by omega]
  refine Eg.c2 rfl (by decide) (by decide) rfl (Nat.le_of_ble_eq_true rfl) (xrcv_ofs (Or.inl rfl)) ((tx_chk2 (i := i) (m := xlen.getD j 0) hi (by omega)).mono (by decide)) (fun r1x h1x hq => ?_)
  obtain ⟨rfl, rfl⟩ := hq
  refine e_aloadq rfl rfl ?_
  refine e_iload rfl rfl ?_
  refine e_tald rfl ⟨by omega, by omega⟩ (by rw [show j + 101 - 101 = j by omega]; exact vp_in_nI hi (by omega)) ?_
  rw [show j + 101 - 101 = j by omega, nI_clamp (by omega)]
  refine e_ipush rfl ?_
  refine e_iand rfl ?_
  refine e_i2c rfl ?_
  rw [show ((xtx.getD j []).getD i 0 &&& 255).toUInt32 % 65536 = (chr j i &&& 255).toUInt32 % 65536 from rfl, c1x]
  exact Eg.ret rfl (by decide) (if_pos c2x) ⟨rfl, rfl⟩
theorem tx_at {j i : Nat} (hj : j < 23) (hi : i < xlen.getD j 0) : Ec X 4 316 [.retAddr (j + 1), .int (nI i)] h (fun r h' => r = some (.int (chr j i)) ∧ h' = h) := by
  obtain ⟨c1x, c2x⟩ := chr_b j hj i hi
  refine Ec.of (Nat.le_of_ble_eq_true rfl) ?_
  refine e_aloadq rfl rfl ?_
  refine Eg.p1 rfl (by decide) (by decide) rfl (Nat.le_of_ble_eq_true rfl) (xrcv_oft rfl ⟨by omega, by omega⟩) ((tx_latin hj).mono (by decide)) ?_
  refine e_ifeq_f rfl (by decide) ?_
  refine e_aloadq rfl rfl ?_
  refine e_tval rfl ⟨by omega, by omega⟩ rfl ?_
  refine e_iload rfl rfl ?_
  refine Eg.p2 rfl (by decide) (by decide) rfl (Nat.le_of_ble_eq_true rfl) (xrcv_ofs (Or.inl rfl)) ((tx_byte hj hi).mono (by decide)) ?_
  exact Eg.ret rfl (by decide) (if_pos c2x) ⟨rfl, rfl⟩
theorem chr_0 : ∀ w, w < 22 → ∀ i, i < 6 → chr 0 (6 * w + i) = nI (wch w i) ∧ wch w i < 256 ∧ 6 * w + i < xlen.getD 0 0 := by decide +kernel
theorem cs_isWord (hT : TpAt sh R) (hB : TpB I B n) {w p q : Nat} (hw : w < 22) (hpq : p ≤ q) (hq : q ≤ n) : Ec X 5 119 [.ref 1, .int (nI w), .int (nI p), .int (nI q)] (sh, I, L, R) (fun r h' => r = some (.int (yn (wBt B p q w = true))) ∧ h' = (sh, I, L, R)) := by
  have hn := hB.1
  refine Ec.of (Nat.le_of_ble_eq_true rfl) ?_
  refine e_ipush rfl ?_
  refine e_istore rfl ?_
  refine Eg.pk [0, 1, 2, 3, 4] [4, 0, 1, 2, 3] rfl (by decide) ?_
  refine up_ind (p := fun j => (∀ i, i < j → (if p + i < q then B (p + i) else 32) = wch w i) → Eg X xTc 4 119 3 [(0, .ref 1), (1, .int (nI w)), (2, .int (nI p)), (3, .int (nI q)), (4, .int (nI j))] [] (sh, I, L, R) (fun r h' => r = some (.int (yn (wBt B p q w = true))) ∧ h' = (sh, I, L, R))) (n := 6) (j := 0) (fun j hj ih => ?_) ?_ (Nat.zero_le _) (fun i hi => absurd hi (by omega))
  · intro hm
    obtain ⟨cw, cb, cx⟩ := chr_0 w hw j hj
    refine e_iload rfl rfl ?_
    refine e_ipush rfl ?_
    refine e_cge_f rfl (nI_ge (b := 6) hj (by decide)) ?_
    refine e_iload rfl rfl ?_
    refine e_iload rfl rfl ?_
    refine e_iadd rfl ?_
    rw [show (nI p) + (nI j) = nI (p + j) from nI_add _ _]
    refine e_iload rfl rfl ?_
    refine e_cge_b rfl (fun b15x => ?_) (fun b15x => ?_)
    · have b15x := (nI_lei (by omega) (by omega)).mp b15x
      refine e_ipush rfl ?_
      refine e_istore rfl ?_
      refine e_text rfl ?_
      refine e_iload rfl rfl ?_
      refine e_ipush rfl ?_
      refine e_imul rfl ?_
      rw [show (nI w) * 6 = nI (6 * w) from (show nI w * nI 6 = _ by rw [nI_times, Nat.mul_comm])]
      refine e_iload rfl rfl ?_
      refine e_iadd rfl ?_
      rw [show (nI (6 * w)) + (nI j) = nI (6 * w + j) from nI_add _ _]
      refine Eg.p2 rfl (by decide) (by decide) rfl (Nat.le_of_ble_eq_true rfl) (xrcv_oft rfl (by decide)) ((tx_at (j := 0) (i := 6 * w + j) (by decide) cx).mono (by decide)) ?_
      rw [cw]
      refine e_iload rfl rfl ?_
      refine e_ceq_b rfl (fun b48x => ?_) (fun b48x => ?_)
      · refine e_iinc rfl rfl ?_
        refine e_goto rfl ?_
        refine Eg.pk [0, 1, 2, 3, 4] [4, 5, 0, 1, 2, 3] rfl (by decide) ?_
        rw [nI_1]
        refine ih (lt_snoc hm ?_)
        rw [if_neg (by omega)]; exact ((nI_eq (a := wch w j) (b := 32) (by omega) (by decide)).mp b48x).symm
      · refine e_ipush rfl ?_
        exact Eg.ret rfl (by decide) rfl ⟨congrArg (fun z => some (Value.int z)) (yn_f (fun q2x => absurd (wBt_iff.mp q2x j hj) (by rw [if_neg (by omega)]; intro e; exact b48x (by rw [← e]; rfl)))).symm, rfl⟩
    · have b15x := nle (by omega) (by omega) b15x
      have hbj := (hB.2.2 (p + j) (by omega)).2
      refine e_aload rfl rfl ?_
      refine e_getR rfl hT.1 hT.2.2.2.2.2.1 ?_
      refine e_iload rfl rfl ?_
      refine e_iload rfl rfl ?_
      refine e_iadd rfl ?_
      rw [show (nI p) + (nI j) = nI (p + j) from nI_add _ _]
      refine e_ialv (t := p + j) (n := 400) rfl hT.2.1 rfl (by omega) (by decide) (hB.2.2 (p + j) (by omega)).1 ?_
      refine e_goto rfl ?_
      refine e_istore rfl ?_
      refine e_text rfl ?_
      refine e_iload rfl rfl ?_
      refine e_ipush rfl ?_
      refine e_imul rfl ?_
      rw [show (nI w) * 6 = nI (6 * w) from (show nI w * nI 6 = _ by rw [nI_times, Nat.mul_comm])]
      refine e_iload rfl rfl ?_
      refine e_iadd rfl ?_
      rw [show (nI (6 * w)) + (nI j) = nI (6 * w + j) from nI_add _ _]
      refine Eg.p2 rfl (by decide) (by decide) rfl (Nat.le_of_ble_eq_true rfl) (xrcv_oft rfl (by decide)) ((tx_at (j := 0) (i := 6 * w + j) (by decide) cx).mono (by decide)) ?_
      rw [cw]
      refine e_iload rfl rfl ?_
      refine e_ceq_b rfl (fun b48x => ?_) (fun b48x => ?_)
      · refine e_iinc rfl rfl ?_
        refine e_goto rfl ?_
        refine Eg.pk [0, 1, 2, 3, 4] [4, 5, 0, 1, 2, 3] rfl (by decide) ?_
        rw [nI_1]
        refine ih (lt_snoc hm ?_)
        rw [if_pos b15x]; exact ((nI_eq (by omega) (by omega)).mp b48x).symm
      · refine e_ipush rfl ?_
        exact Eg.ret rfl (by decide) rfl ⟨congrArg (fun z => some (Value.int z)) (yn_f (fun q2x => absurd (wBt_iff.mp q2x j hj) (by rw [if_pos b15x]; intro e; exact b48x (by rw [e])))).symm, rfl⟩
  · intro hm
    refine e_iload rfl rfl ?_
    refine e_ipush rfl ?_
    refine e_cge_t rfl (Int32.le_refl _) ?_
    refine e_ipush rfl ?_
    exact Eg.ret rfl (by decide) rfl ⟨congrArg (fun z => some (Value.int z)) (yn_t (wBt_iff.mpr hm)).symm, rfl⟩
theorem cs_wordNumber (hT : TpAt sh R) (hB : TpB I B n) {p q : Nat} (hpq : p ≤ q) (hq : q ≤ n) : Ec X 6 118 [.ref 1, .int (nI p), .int (nI q)] (sh, I, L, R) (fun r h' => r = some (.int (wnI B p q)) ∧ h' = (sh, I, L, R)) := by
  have hn := hB.1
  refine Ec.of (Nat.le_of_ble_eq_true rfl) ?_
  refine e_iload rfl rfl ?_
  refine e_iload rfl rfl ?_
  refine e_isub rfl ?_
  rw [show (nI q) - (nI p) = nI (q - p) from nI_sub hpq]
  refine e_ipush rfl ?_
  refine e_cle_b rfl (fun b5x => ?_) (fun b5x => ?_)
  · have b5x := (nI_lei (b := 6) (by omega) (by decide)).mp b5x
    refine e_ipush rfl ?_
    refine e_istore rfl ?_
    refine Eg.pk [0, 1, 2, 3] [3, 0, 1, 2] rfl (by decide) ?_
    refine up_ind (p := fun j => (∀ i, i < j → wBt B p q i = false) → Eg X xTc 5 118 12 [(0, .ref 1), (1, .int (nI p)), (2, .int (nI q)), (3, .int (nI j))] [] (sh, I, L, R) (fun r h' => r = some (.int (wnI B p q)) ∧ h' = (sh, I, L, R))) (n := 22) (j := 0) (fun j hj ih => ?_) ?_ (Nat.zero_le _) (fun i hi => absurd hi (by omega))
    · intro hm
      refine e_iload rfl rfl ?_
      refine e_ipush rfl ?_
      refine e_cge_f rfl (nI_ge (b := 22) hj (by decide)) ?_
      refine e_aload rfl rfl ?_
      refine e_iload rfl rfl ?_
      refine e_iload rfl rfl ?_
      refine e_iload rfl rfl ?_
      refine Eg.p4 rfl (by decide) (by decide) rfl (Nat.le_of_ble_eq_true rfl) (xrcv_of rfl hT.1 rfl) ((cs_isWord hT hB (w := j) (by omega) hpq hq).mono (by decide)) ?_
      refine e_ifeq_b rfl (fun b25x => ?_) (fun b25x => ?_)
      · replace b25x := yn_0.mp b25x
        refine e_iinc rfl rfl ?_
        refine e_goto rfl ?_
        refine Eg.pk [0, 1, 2, 3] [3, 0, 1, 2] rfl (by decide) ?_
        rw [nI_1]
        exact ih (lt_snoc hm (Bool.eq_false_iff.mpr b25x))
      · replace b25x := yn_n0.mp b25x
        refine e_iload rfl rfl ?_
        have e : wno B p q = j := by
          unfold wno; rw [if_neg (by omega)]; exact scan_eq (fun u h1x h2x => by rw [hm u h2x]; rfl) (Nat.zero_le _) (by omega) (Or.inr (by rw [b25x]; rfl))
        exact Eg.ret rfl (by decide) rfl ⟨congrArg (fun z => some (Value.int z)) (show nI j = wnI B p q by unfold wnI; rw [e, if_neg (by omega)]), rfl⟩
    · intro hm
      refine e_iload rfl rfl ?_
      refine e_ipush rfl ?_
      refine e_cge_t rfl (Int32.le_refl _) ?_
      refine e_ipush rfl ?_
      have e : wno B p q = 22 := by
        unfold wno; rw [if_neg (by omega)]; exact scan_eq (fun u h1x h2x => by rw [hm u h2x]; rfl) (Nat.zero_le _) (by omega) (Or.inl rfl)
      exact Eg.ret rfl (by decide) rfl ⟨congrArg (fun z => some (Value.int z)) (show -1 = wnI B p q by unfold wnI; rw [e, if_pos rfl]), rfl⟩
  · have b5x := nle (b := 6) (by omega) (by decide) b5x
    refine e_ipush rfl ?_
    exact Eg.ret rfl (by decide) rfl ⟨congrArg (fun z => some (Value.int z)) (show -1 = wnI B p q by unfold wnI wno; rw [if_pos b5x, if_pos rfl]), rfl⟩
/-- one token more -/
def Tk1x (I J : Nat → Nat → Int32) (t : Nat) (k p x : Int32) : Prop := J 3 t = k ∧ J 4 t = p ∧ J 5 t = x ∧ J 1 6 = nI (t + 1) ∧ ∀ i m, (i ≠ 1 ∨ m ≠ 6) → (i < 3 ∨ 5 < i ∨ m ≠ t) → J i m = I i m
theorem cs_addToken (hT : TpAt sh R) {t : Nat} (h6x : I 1 6 = nI t) (ht : t < 401) {k p x : Int32} : Ec X 1 112 [.ref 1, .int k, .int p, .int x] (sh, I, L, R) (fun r h' => r = none ∧ ∃ J : Nat → Nat → Int32, h' = (sh, J, L, R) ∧ Tk1x I J t k p x) := by
  refine Ec.of (Nat.le_of_ble_eq_true rfl) ?_
  refine e_aload rfl rfl ?_
  refine e_getIv rfl hT.1 h6x ?_
  refine e_aload rfl rfl ?_
  refine e_getR rfl hT.1 hT.2.2.2.2.2.2.1 ?_
  refine e_alen rfl hT.2.2.1 (by decide) ?_
  refine e_cge_f rfl (nI_ge (b := 401) ht (by decide)) ?_
  refine e_aload rfl rfl ?_
  refine e_getR rfl hT.1 hT.2.2.2.2.2.2.1 ?_
  refine e_aload rfl rfl ?_
  refine e_getIv rfl hT.1 h6x ?_
  refine e_iload rfl rfl ?_
  refine e_iasJ (t := t) (n := 401) rfl hT.2.2.1 rfl (by omega) (by decide) (fun J1x g1x f1x => ?_)
  refine e_aload rfl rfl ?_
  refine e_getR rfl hT.1 hT.2.2.2.2.2.2.2.1 ?_
  refine e_aload rfl rfl ?_
  refine e_getIv rfl hT.1 ((f1x 1 6 (Or.inl (by omega))).trans h6x) ?_
  refine e_iload rfl rfl ?_
  refine e_iasJ (t := t) (n := 401) rfl hT.2.2.2.1 rfl (by omega) (by decide) (fun J2x g2x f2x => ?_)
  refine e_aload rfl rfl ?_
  refine e_getR rfl hT.1 hT.2.2.2.2.2.2.2.2 ?_
  refine e_aload rfl rfl ?_
  refine e_getIv rfl hT.1 ((f2x 1 6 (Or.inl (by omega))).trans ((f1x 1 6 (Or.inl (by omega))).trans h6x)) ?_
  refine e_iload rfl rfl ?_
  refine e_iasJ (t := t) (n := 401) rfl hT.2.2.2.2.1 rfl (by omega) (by decide) (fun J3x g3x f3x => ?_)
  refine e_aload rfl rfl ?_
  refine e_dupr rfl ?_
  refine e_getIv rfl hT.1 ((f3x 1 6 (Or.inl (by omega))).trans ((f2x 1 6 (Or.inl (by omega))).trans ((f1x 1 6 (Or.inl (by omega))).trans h6x))) ?_
  refine e_ipush rfl ?_
  refine e_iadd rfl ?_
  rw [show (nI t) + 1 = nI (t + 1) from nI_1 t]
  refine e_putIJ rfl hT.1 (fun J4x g4x f4x => ?_)
  exact Eg.ret rfl (by decide) rfl ⟨rfl, J4x, rfl, (f4x 3 t (by omega)).trans ((f3x 3 t (by omega)).trans ((f2x 3 t (by omega)).trans g1x)), (f4x 4 t (by omega)).trans ((f3x 4 t (by omega)).trans g2x), (f4x 5 t (by omega)).trans g3x, g4x, fun i m h1x h2x => (f4x i m h1x).trans ((f3x i m (by omega)).trans ((f2x i m (by omega)).trans (f1x i m (by omega))))⟩
theorem cs_cutToken (hT : TpAt sh R) (hB : TpB I B n) {t p : Nat} (h6x : I 1 6 = nI t) (ht : t < 401) (hp : p < n) : Ec X 7 111 [.ref 1, .int (nI p)] (sh, I, L, R) (fun r h' => r = some (.int (nI (tend B n p - p - 1))) ∧ ∃ J : Nat → Nat → Int32, h' = (sh, J, L, R) ∧ Tk1x I J t (nI (tknd B n p)) (nI p) (tvl B n p)) := by
  have hn := hB.1
  have hc := (hB.2.2 p hp).2
  have hl := lend_le (B := B) (n := n) (p := p)
  have hl2x := hl.2 (by omega)
  have hd := dend_le (B := B) (n := n) (p := p)
  have hd2x := hd.2 (by omega)
  refine Ec.of (Nat.le_of_ble_eq_true rfl) ?_
  refine e_aload rfl rfl ?_
  refine e_getR rfl hT.1 hT.2.2.2.2.2.1 ?_
  refine e_iload rfl rfl ?_
  refine e_ialv (t := p) (n := 400) rfl hT.2.1 rfl (by omega) (by decide) (hB.2.2 p (by omega)).1 ?_
  refine e_istore rfl ?_
  refine e_iload rfl rfl ?_
  refine Eg.p1 rfl (by decide) (by decide) rfl (Nat.le_of_ble_eq_true rfl) (xrcv_ofs (Or.inl rfl)) ((cs_isLetter (c := B p) (by omega)).mono (by decide)) ?_
  refine e_ifeq_b rfl (fun b11x => ?_) (fun b11x => ?_)
  · replace b11x := yn_0.mp b11x
    refine e_iload rfl rfl ?_
    refine Eg.p1 rfl (by decide) (by decide) rfl (Nat.le_of_ble_eq_true rfl) (xrcv_ofs (Or.inl rfl)) ((cs_isDigit (c := B p) (by omega)).mono (by decide)) ?_
    refine e_ifeq_b rfl (fun b42x => ?_) (fun b42x => ?_)
    · replace b42x := yn_0.mp b42x
      refine e_iload rfl rfl ?_
      refine e_ipush rfl ?_
      refine e_ceq_b rfl (fun b72x => ?_) (fun b72x => ?_)
      · refine e_iload rfl rfl ?_
        refine e_ipush rfl ?_
        refine e_iadd rfl ?_
        rw [show (nI p) + 1 = nI (p + 1) from nI_1 p]
        refine e_aload rfl rfl ?_
        refine e_getIv rfl hT.1 hB.2.1 ?_
        refine e_cge_b rfl (fun b88x => ?_) (fun b88x => ?_)
        · have b88x := (nI_lei (by omega) (by omega)).mp b88x
          refine e_ipush rfl ?_
          refine e_istore rfl ?_
          refine e_aload rfl rfl ?_
          refine e_ipush rfl ?_
          refine e_iload rfl rfl ?_
          refine e_iload rfl rfl ?_
          refine e_ifeq_t rfl rfl ?_
          refine e_iload rfl rfl ?_
          refine Eg.c4 rfl (by decide) (by decide) rfl (Nat.le_of_ble_eq_true rfl) (xrcv_of rfl hT.1 rfl) ((cs_addToken hT h6x ht).mono (by decide)) (fun r1x h1x hq => ?_)
          obtain ⟨rfl, J, rfl, hJ⟩ := hq
          refine e_iload rfl rfl ?_
          refine e_ifeq_t rfl rfl ?_
          refine e_ipush rfl ?_
          have dd : ¬ dbl B n p = true := fun q => absurd (dbl_iff.mp q).2.1 (by omega)
          have e1x : tend B n p = p + 1 := by unfold tend; rw [if_neg b11x, if_neg b42x, if_neg dd]
          have e2x : tknd B n p = 3 := by unfold tknd; rw [if_neg (by omega), if_neg b11x, if_neg b42x]
          have e3x : tvl B n p = nI (B p) := by unfold tvl; rw [if_neg (by omega), if_neg b11x, if_neg b42x, if_neg dd]
          refine Eg.ret rfl (by decide) rfl ⟨congrArg (fun z => some (Value.int z)) ?_, J, rfl, ?_⟩
          · rw [e1x, show p + 1 - p - 1 = 0 by omega]; rfl
          · rw [e2x, e3x]; exact hJ
        · have b88x := nle (by omega) (by omega) b88x
          have hc1x := (hB.2.2 (p + 1) b88x).2
          refine e_aload rfl rfl ?_
          refine e_getR rfl hT.1 hT.2.2.2.2.2.1 ?_
          refine e_iload rfl rfl ?_
          refine e_ipush rfl ?_
          refine e_iadd rfl ?_
          rw [show (nI p) + 1 = nI (p + 1) from nI_1 p]
          refine e_ialv (t := p + 1) (n := 400) rfl hT.2.1 rfl (by omega) (by decide) (hB.2.2 (p + 1) (by omega)).1 ?_
          refine e_ipush rfl ?_
          refine e_cne_b rfl (fun b101x => ?_) (fun b101x => ?_)
          · refine e_ipush rfl ?_
            refine e_istore rfl ?_
            refine e_aload rfl rfl ?_
            refine e_ipush rfl ?_
            refine e_iload rfl rfl ?_
            refine e_iload rfl rfl ?_
            refine e_ifeq_t rfl rfl ?_
            refine e_iload rfl rfl ?_
            refine Eg.c4 rfl (by decide) (by decide) rfl (Nat.le_of_ble_eq_true rfl) (xrcv_of rfl hT.1 rfl) ((cs_addToken hT h6x ht).mono (by decide)) (fun r1x h1x hq => ?_)
            obtain ⟨rfl, J, rfl, hJ⟩ := hq
            refine e_iload rfl rfl ?_
            refine e_ifeq_t rfl rfl ?_
            refine e_ipush rfl ?_
            have dd : ¬ dbl B n p = true := fun q => b101x (by rw [(dbl_iff.mp q).2.2]; rfl)
            have e1x : tend B n p = p + 1 := by unfold tend; rw [if_neg b11x, if_neg b42x, if_neg dd]
            have e2x : tknd B n p = 3 := by unfold tknd; rw [if_neg (by omega), if_neg b11x, if_neg b42x]
            have e3x : tvl B n p = nI (B p) := by unfold tvl; rw [if_neg (by omega), if_neg b11x, if_neg b42x, if_neg dd]
            refine Eg.ret rfl (by decide) rfl ⟨congrArg (fun z => some (Value.int z)) ?_, J, rfl, ?_⟩
            · rw [e1x, show p + 1 - p - 1 = 0 by omega]; rfl
            · rw [e2x, e3x]; exact hJ
          · refine e_ipush rfl ?_
            refine e_goto rfl ?_
            refine e_istore rfl ?_
            refine e_aload rfl rfl ?_
            refine e_ipush rfl ?_
            refine e_iload rfl rfl ?_
            refine e_iload rfl rfl ?_
            refine e_ifeq_f rfl (by decide) ?_
            refine e_iload rfl rfl ?_
            refine e_ipush rfl ?_
            refine e_iadd rfl ?_
            rw [show (nI (B p)) + 256 = nI (B p + 256) from nI_add _ 256]
            refine e_goto rfl ?_
            refine Eg.c4 rfl (by decide) (by decide) rfl (Nat.le_of_ble_eq_true rfl) (xrcv_of rfl hT.1 rfl) ((cs_addToken hT h6x ht).mono (by decide)) (fun r1x h1x hq => ?_)
            obtain ⟨rfl, J, rfl, hJ⟩ := hq
            refine e_iload rfl rfl ?_
            refine e_ifeq_f rfl (by decide) ?_
            refine e_ipush rfl ?_
            refine e_goto rfl ?_
            have dd : dbl B n p = true := dbl_iff.mpr ⟨Or.inl ((nI_eq (b := 60) (by omega) (by decide)).mp b72x), b88x, (nI_eq (b := 61) (by omega) (by decide)).mp b101x⟩
            have e1x : tend B n p = p + 2 := by unfold tend; rw [if_neg b11x, if_neg b42x, if_pos dd]
            have e2x : tknd B n p = 3 := by unfold tknd; rw [if_neg (by omega), if_neg b11x, if_neg b42x]
            have e3x : tvl B n p = nI (B p + 256) := by unfold tvl; rw [if_neg (by omega), if_neg b11x, if_neg b42x, if_pos dd]
            refine Eg.ret rfl (by decide) rfl ⟨congrArg (fun z => some (Value.int z)) ?_, J, rfl, ?_⟩
            · rw [e1x, show p + 2 - p - 1 = 1 by omega]; rfl
            · rw [e2x, e3x]; exact hJ
      · refine e_iload rfl rfl ?_
        refine e_ipush rfl ?_
        refine e_cne_b rfl (fun b78x => ?_) (fun b78x => ?_)
        · refine e_ipush rfl ?_
          refine e_istore rfl ?_
          refine e_aload rfl rfl ?_
          refine e_ipush rfl ?_
          refine e_iload rfl rfl ?_
          refine e_iload rfl rfl ?_
          refine e_ifeq_t rfl rfl ?_
          refine e_iload rfl rfl ?_
          refine Eg.c4 rfl (by decide) (by decide) rfl (Nat.le_of_ble_eq_true rfl) (xrcv_of rfl hT.1 rfl) ((cs_addToken hT h6x ht).mono (by decide)) (fun r1x h1x hq => ?_)
          obtain ⟨rfl, J, rfl, hJ⟩ := hq
          refine e_iload rfl rfl ?_
          refine e_ifeq_t rfl rfl ?_
          refine e_ipush rfl ?_
          have dd : ¬ dbl B n p = true := fun q => (dbl_iff.mp q).1.elim (fun e => b72x (by rw [e]; rfl)) (fun e => b78x (by rw [e]; rfl))
          have e1x : tend B n p = p + 1 := by unfold tend; rw [if_neg b11x, if_neg b42x, if_neg dd]
          have e2x : tknd B n p = 3 := by unfold tknd; rw [if_neg (by omega), if_neg b11x, if_neg b42x]
          have e3x : tvl B n p = nI (B p) := by unfold tvl; rw [if_neg (by omega), if_neg b11x, if_neg b42x, if_neg dd]
          refine Eg.ret rfl (by decide) rfl ⟨congrArg (fun z => some (Value.int z)) ?_, J, rfl, ?_⟩
          · rw [e1x, show p + 1 - p - 1 = 0 by omega]; rfl
          · rw [e2x, e3x]; exact hJ
        · refine e_iload rfl rfl ?_
          refine e_ipush rfl ?_
          refine e_iadd rfl ?_
          rw [show (nI p) + 1 = nI (p + 1) from nI_1 p]
          refine e_aload rfl rfl ?_
          refine e_getIv rfl hT.1 hB.2.1 ?_
          refine e_cge_b rfl (fun b88x => ?_) (fun b88x => ?_)
          · have b88x := (nI_lei (by omega) (by omega)).mp b88x
            refine e_ipush rfl ?_
            refine e_istore rfl ?_
            refine e_aload rfl rfl ?_
            refine e_ipush rfl ?_
            refine e_iload rfl rfl ?_
            refine e_iload rfl rfl ?_
            refine e_ifeq_t rfl rfl ?_
            refine e_iload rfl rfl ?_
            refine Eg.c4 rfl (by decide) (by decide) rfl (Nat.le_of_ble_eq_true rfl) (xrcv_of rfl hT.1 rfl) ((cs_addToken hT h6x ht).mono (by decide)) (fun r1x h1x hq => ?_)
            obtain ⟨rfl, J, rfl, hJ⟩ := hq
            refine e_iload rfl rfl ?_
            refine e_ifeq_t rfl rfl ?_
            refine e_ipush rfl ?_
            have dd : ¬ dbl B n p = true := fun q => absurd (dbl_iff.mp q).2.1 (by omega)
            have e1x : tend B n p = p + 1 := by unfold tend; rw [if_neg b11x, if_neg b42x, if_neg dd]
            have e2x : tknd B n p = 3 := by unfold tknd; rw [if_neg (by omega), if_neg b11x, if_neg b42x]
            have e3x : tvl B n p = nI (B p) := by unfold tvl; rw [if_neg (by omega), if_neg b11x, if_neg b42x, if_neg dd]
            refine Eg.ret rfl (by decide) rfl ⟨congrArg (fun z => some (Value.int z)) ?_, J, rfl, ?_⟩
            · rw [e1x, show p + 1 - p - 1 = 0 by omega]; rfl
            · rw [e2x, e3x]; exact hJ
          · have b88x := nle (by omega) (by omega) b88x
            have hc1x := (hB.2.2 (p + 1) b88x).2
            refine e_aload rfl rfl ?_
            refine e_getR rfl hT.1 hT.2.2.2.2.2.1 ?_
            refine e_iload rfl rfl ?_
            refine e_ipush rfl ?_
            refine e_iadd rfl ?_
            rw [show (nI p) + 1 = nI (p + 1) from nI_1 p]
            refine e_ialv (t := p + 1) (n := 400) rfl hT.2.1 rfl (by omega) (by decide) (hB.2.2 (p + 1) (by omega)).1 ?_
            refine e_ipush rfl ?_
            refine e_cne_b rfl (fun b101x => ?_) (fun b101x => ?_)
            · refine e_ipush rfl ?_
              refine e_istore rfl ?_
              refine e_aload rfl rfl ?_
              refine e_ipush rfl ?_
              refine e_iload rfl rfl ?_
              refine e_iload rfl rfl ?_
              refine e_ifeq_t rfl rfl ?_
              refine e_iload rfl rfl ?_
              refine Eg.c4 rfl (by decide) (by decide) rfl (Nat.le_of_ble_eq_true rfl) (xrcv_of rfl hT.1 rfl) ((cs_addToken hT h6x ht).mono (by decide)) (fun r1x h1x hq => ?_)
              obtain ⟨rfl, J, rfl, hJ⟩ := hq
              refine e_iload rfl rfl ?_
              refine e_ifeq_t rfl rfl ?_
              refine e_ipush rfl ?_
              have dd : ¬ dbl B n p = true := fun q => b101x (by rw [(dbl_iff.mp q).2.2]; rfl)
              have e1x : tend B n p = p + 1 := by unfold tend; rw [if_neg b11x, if_neg b42x, if_neg dd]
              have e2x : tknd B n p = 3 := by unfold tknd; rw [if_neg (by omega), if_neg b11x, if_neg b42x]
              have e3x : tvl B n p = nI (B p) := by unfold tvl; rw [if_neg (by omega), if_neg b11x, if_neg b42x, if_neg dd]
              refine Eg.ret rfl (by decide) rfl ⟨congrArg (fun z => some (Value.int z)) ?_, J, rfl, ?_⟩
              · rw [e1x, show p + 1 - p - 1 = 0 by omega]; rfl
              · rw [e2x, e3x]; exact hJ
            · refine e_ipush rfl ?_
              refine e_goto rfl ?_
              refine e_istore rfl ?_
              refine e_aload rfl rfl ?_
              refine e_ipush rfl ?_
              refine e_iload rfl rfl ?_
              refine e_iload rfl rfl ?_
              refine e_ifeq_f rfl (by decide) ?_
              refine e_iload rfl rfl ?_
              refine e_ipush rfl ?_
              refine e_iadd rfl ?_
              rw [show (nI (B p)) + 256 = nI (B p + 256) from nI_add _ 256]
              refine e_goto rfl ?_
              refine Eg.c4 rfl (by decide) (by decide) rfl (Nat.le_of_ble_eq_true rfl) (xrcv_of rfl hT.1 rfl) ((cs_addToken hT h6x ht).mono (by decide)) (fun r1x h1x hq => ?_)
              obtain ⟨rfl, J, rfl, hJ⟩ := hq
              refine e_iload rfl rfl ?_
              refine e_ifeq_f rfl (by decide) ?_
              refine e_ipush rfl ?_
              refine e_goto rfl ?_
              have dd : dbl B n p = true := dbl_iff.mpr ⟨Or.inr ((nI_eq (b := 62) (by omega) (by decide)).mp b78x), b88x, (nI_eq (b := 61) (by omega) (by decide)).mp b101x⟩
              have e1x : tend B n p = p + 2 := by unfold tend; rw [if_neg b11x, if_neg b42x, if_pos dd]
              have e2x : tknd B n p = 3 := by unfold tknd; rw [if_neg (by omega), if_neg b11x, if_neg b42x]
              have e3x : tvl B n p = nI (B p + 256) := by unfold tvl; rw [if_neg (by omega), if_neg b11x, if_neg b42x, if_pos dd]
              refine Eg.ret rfl (by decide) rfl ⟨congrArg (fun z => some (Value.int z)) ?_, J, rfl, ?_⟩
              · rw [e1x, show p + 2 - p - 1 = 1 by omega]; rfl
              · rw [e2x, e3x]; exact hJ
    · replace b42x := yn_n0.mp b42x
      refine e_aload rfl rfl ?_
      refine e_iload rfl rfl ?_
      refine Eg.p2 rfl (by decide) (by decide) rfl (Nat.le_of_ble_eq_true rfl) (xrcv_of rfl hT.1 rfl) ((cs_digitsEnd hT hB (p := p) (by omega)).mono (by decide)) ?_
      refine e_istore rfl ?_
      have hdd : ∀ i, p ≤ i → i < dend B n p → isD (B i) = true := fun i h1x h2x => scan_in (f := fun i => isD (B i)) (n - p) p i h1x h2x
      refine e_aload rfl rfl ?_
      refine e_ipush rfl ?_
      refine e_iload rfl rfl ?_
      refine e_aload rfl rfl ?_
      refine e_iload rfl rfl ?_
      refine e_iload rfl rfl ?_
      refine Eg.p3 rfl (by decide) (by decide) rfl (Nat.le_of_ble_eq_true rfl) (xrcv_of rfl hT.1 rfl) ((cs_numberOf hT hB (p := p) (q := dend B n p) (by omega) (by omega) hdd).mono (by decide)) ?_
      refine Eg.c4 rfl (by decide) (by decide) rfl (Nat.le_of_ble_eq_true rfl) (xrcv_of rfl hT.1 rfl) ((cs_addToken hT h6x ht).mono (by decide)) (fun r1x h1x hq => ?_)
      obtain ⟨rfl, J, rfl, hJ⟩ := hq
      refine e_iload rfl rfl ?_
      refine e_iload rfl rfl ?_
      refine e_isub rfl ?_
      refine e_ipush rfl ?_
      refine e_isub rfl ?_
      have e1x : tend B n p = dend B n p := by unfold tend; rw [if_neg b11x, if_pos b42x]
      have e2x : tknd B n p = 2 := by unfold tknd; rw [if_neg (by omega), if_neg b11x, if_pos b42x]
      have e3x : tvl B n p = nmI B p (dend B n p) := by unfold tvl; rw [if_neg (by omega), if_neg b11x, if_pos b42x]
      have h9x := dend_lt hp b42x
      refine Eg.ret rfl (by decide) rfl ⟨congrArg (fun z => some (Value.int z)) ?_, J, rfl, ?_⟩
      · rw [e1x, nI_sub (by omega)]; exact nI_sub (b := 1) (by omega)
      · rw [e2x, e3x]; exact hJ
  · replace b11x := yn_n0.mp b11x
    refine e_aload rfl rfl ?_
    refine e_iload rfl rfl ?_
    refine Eg.p2 rfl (by decide) (by decide) rfl (Nat.le_of_ble_eq_true rfl) (xrcv_of rfl hT.1 rfl) ((cs_lettersEnd hT hB (p := p) (by omega)).mono (by decide)) ?_
    refine e_istore rfl ?_
    refine e_aload rfl rfl ?_
    refine e_ipush rfl ?_
    refine e_iload rfl rfl ?_
    refine e_aload rfl rfl ?_
    refine e_iload rfl rfl ?_
    refine e_iload rfl rfl ?_
    refine Eg.p3 rfl (by decide) (by decide) rfl (Nat.le_of_ble_eq_true rfl) (xrcv_of rfl hT.1 rfl) ((cs_wordNumber hT hB (p := p) (q := lend B n p) (by omega) (by omega)).mono (by decide)) ?_
    refine Eg.c4 rfl (by decide) (by decide) rfl (Nat.le_of_ble_eq_true rfl) (xrcv_of rfl hT.1 rfl) ((cs_addToken hT h6x ht).mono (by decide)) (fun r1x h1x hq => ?_)
    obtain ⟨rfl, J, rfl, hJ⟩ := hq
    refine e_iload rfl rfl ?_
    refine e_iload rfl rfl ?_
    refine e_isub rfl ?_
    refine e_ipush rfl ?_
    refine e_isub rfl ?_
    have e1x : tend B n p = lend B n p := by unfold tend; rw [if_pos b11x]
    have e2x : tknd B n p = 1 := by unfold tknd; rw [if_neg (by omega), if_pos b11x]
    have e3x : tvl B n p = wnI B p (lend B n p) := by unfold tvl; rw [if_neg (by omega), if_pos b11x]
    have h9x := lend_lt hp b11x
    refine Eg.ret rfl (by decide) rfl ⟨congrArg (fun z => some (Value.int z)) ?_, J, rfl, ?_⟩
    · rw [e1x, nI_sub (by omega)]; exact nI_sub (b := 1) (by omega)
    · rw [e2x, e3x]; exact hJ
end TA
