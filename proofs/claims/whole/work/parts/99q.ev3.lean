/-! RULES worked out: the words of a ship, both sides -/
section EY
variable {X : xX} {h : xH} {sh : List (Nat × Nat)} {I : Nat → Nat → Int32} {L : Nat → Nat → Int64} {R : Nat → Nat → Option Nat} {B : Nat → Nat} {n ri p : Nat} {st : rS}
variable {ru m s : Nat} {v : Nat → Nat → Int32}
/-- a ship's cell -/
def sc (v : Nat → Nat → Int32) (k : Nat) : Nat := (v 13 k).toNatClampNeg
def sw (v : Nat → Nat → Int32) (k : Nat) : Int32 := wlo v (sc v k) (nI (cn v 7))
/-- the words of a ship -/
def askI (v : Nat → Nat → Int32) (k j : Nat) : Int32 := if j = 0 then nI k else if j = 1 then v 13 k else if j = 2 then nI (cn v 7) else if j = 3 then v 14 k else if j = 4 then v 15 k else if j = 5 then lv v (sc v k) (nI (cn v 7)) else if j = 6 then (if 1 ≤ sc v k then lv v (sc v k - 1) (nI (cn v 7) + 1) else 99) else if j = 7 then (if sc v k + 1 < cn v 0 then lv v (sc v k + 1) (nI (cn v 7) + 1) else 99) else if j = 8 then (if sw v k = -1 then 0 else 1) else if j = 9 then (if sw v k = -1 then 0 else pco v (sw v k).toNatClampNeg) else v 17 k
def ask (v : Nat → Nat → Int32) (k j : Nat) : Int64 := (askI v k j).toInt64
theorem sc_nI (hw : Wf v) {k : Nat} (hk : k < cn v 4) : v 13 k = nI (sc v k) ∧ sc v k < cn v 0 := by
  have h12x := hw.1.2.1
  obtain ⟨c, t, e, l, -⟩ := hw.ships k hk
  have : sc v k = c := by unfold sc; rw [e, nI_clamp (by omega)]
  rw [this]; exact ⟨e, l⟩
theorem sw_bd (hw : Wf v) {k : Nat} : sw v k = -1 ∨ ∃ b, b < cn v 2 ∧ b < 4 ∧ sw v k = nI b ∧ isP v b := by
  have h4x := hw.1.2.2.2.1
  rcases wlo_bd (v := v) (c := sc v k) (n := cn v 2) (h := lv v (sc v k) (nI (cn v 7))) with e | ⟨b, hb, e⟩
  · exact Or.inl e
  · exact Or.inr ⟨b, hb, by omega, e, Or.inl ⟨by omega, hb⟩⟩
theorem wr_n {M M1x : Nat → Nat → Int64} {c n : Nat} {S : Nat → Int64} (h : ∀ j, j < n → M c j = S j) (g : M1x c n = S n) (f : ∀ p r, p ≠ c ∨ r ≠ n → M1x p r = M p r) : ∀ j, j < n + 1 → M1x c j = S j := by
  intro j hj
  by_cases e : j = n
  · rw [e]; exact g
  · rw [f c j (Or.inr e)]; exact h j (by omega)
theorem wvx_inj : ∀ i, i < 11 → ∀ j, j < 11 → wvx.getD i 0 = wvx.getD j 0 → i = j := by decide
theorem wr_w {M M1x : Nat → Nat → Int64} {n t : Nat} {S : Nat → Int64} (h : ∀ j, j < n → M 239 (wvx.getD j 0) = S j) (hn : n < 11) (et : wvx.getD n 0 = t) (g : M1x 239 t = S n) (f : ∀ p r, p ≠ 239 ∨ r ≠ t → M1x p r = M p r) : ∀ j, j < n + 1 → M1x 239 (wvx.getD j 0) = S j := by
  intro j hj
  by_cases e : j = n
  · rw [e, et]; exact g
  · rw [f 239 _ (Or.inr (fun q => e (wvx_inj j (by omega) n hn (q.trans et.symm))))]; exact h j (by omega)
theorem ms_asks (hM : MW sh R) (hv : mV I v) (hw : Wf v) {k : Nat} (hk : k < cn v 4) : Ec X 6 262 [.ref 290, .int (nI k)] (sh, I, L, R) (fun r h' => r = none ∧ ∃ M : Nat → Nat → Int64, h' = (sh, I, M, R) ∧ (∀ j, j < 11 → M 346 j = ask v k j) ∧ ∀ p q, p ≠ 346 → M p q = L p q) := by
  obtain ⟨e13x, l13x⟩ := sc_nI hw hk
  have h12x := hw.1.2.1
  have h44x := hw.1.2.2.2.2.2.1
  have s10x : ∀ M : Nat → Nat → Int64, (∀ j, j < 10 → M 346 j = ask v k j) → (∀ p q, p ≠ 346 → M p q = L p q) → Eg X xTc 5 262 215 [(0, .ref 290), (1, .int (nI k)), (2, .int (nI (sc v k))), (3, .int (sw v k))] [] (sh, I, M, R) (fun r h' => r = none ∧ ∃ M : Nat → Nat → Int64, h' = (sh, I, M, R) ∧ (∀ j, j < 11 → M 346 j = ask v k j) ∧ ∀ p q, p ≠ 346 → M p q = L p q) := by
    intro M m1x m2x
    refine e_aload rfl rfl ?_
    refine e_getR rfl hM.1 (show R 290 67 = some 346 from (hM.2 55 _ rfl).2) ?_
    refine e_ipush rfl ?_
    refine e_aload rfl rfl ?_
    refine e_getR rfl hM.1 (show R 290 17 = some 307 from (hM.2 16 _ rfl).2) ?_
    refine e_iload rfl rfl ?_
    refine e_ialv (t := k) (n := 4) rfl (show sh[307]? = some (20, 4) from (hM.2 16 _ rfl).1) rfl (by omega) (by decide) (hv 17 k (by decide)) ?_
    refine e_i2l rfl ?_
    refine e_lasJ (t := 10) (n := 11) rfl (show sh[346]? = some (21, 11) from (hM.2 55 _ rfl).1) rfl (by decide) (by decide) (fun M1x gm1x fm1x => ?_)
    exact Eg.ret rfl (by decide) rfl ⟨rfl, M1x, rfl, wr_n m1x (gm1x.trans rfl) fm1x, fun p q r => (fm1x p q (Or.inl r)).trans (m2x p q r)⟩
  have s9x : ∀ M : Nat → Nat → Int64, (∀ j, j < 9 → M 346 j = ask v k j) → (∀ p q, p ≠ 346 → M p q = L p q) → Eg X xTc 5 262 192 [(0, .ref 290), (1, .int (nI k)), (2, .int (nI (sc v k))), (3, .int (sw v k))] [] (sh, I, M, R) (fun r h' => r = none ∧ ∃ M : Nat → Nat → Int64, h' = (sh, I, M, R) ∧ (∀ j, j < 11 → M 346 j = ask v k j) ∧ ∀ p q, p ≠ 346 → M p q = L p q) := by
    intro M m1x m2x
    refine e_aload rfl rfl ?_
    refine e_getR rfl hM.1 (show R 290 67 = some 346 from (hM.2 55 _ rfl).2) ?_
    refine e_ipush rfl ?_
    refine e_iload rfl rfl ?_
    refine e_ipush rfl ?_
    refine e_cne_b rfl (fun b200x => ?_) (fun b200x => ?_)
    · refine e_aload rfl rfl ?_
      refine e_getR rfl hM.1 (show R 290 9 = some 299 from (hM.2 8 _ rfl).2) ?_
      refine e_iload rfl rfl ?_
      obtain ⟨bb, bb1x, bb2x, bb3x, bb4x⟩ := (sw_bd hw (k := k)).resolve_left b200x
      refine e_ialv (t := bb) (n := 4) rfl (show sh[299]? = some (20, 4) from (hM.2 8 _ rfl).1) bb3x (by omega) (by decide) (show I 299 bb = pco v (sw v k).toNatClampNeg from (hv 9 bb (by decide)).trans (by rw [bb3x, nI_clamp (by omega)]; exact (if_pos bb2x).symm)) ?_
      refine e_i2l rfl ?_
      refine e_lasJ (t := 9) (n := 11) rfl (show sh[346]? = some (21, 11) from (hM.2 55 _ rfl).1) rfl (by decide) (by decide) (fun M1x gm1x fm1x => ?_)
      refine Eg.pk [0, 1, 2, 3] [0, 1, 2, 3] rfl (by decide) ?_
      exact s10x M1x (wr_n m1x (gm1x.trans (show _ = ask v k 9 from congrArg Int32.toInt64 (if_neg b200x).symm)) fm1x) (fun p q r => (fm1x p q (Or.inl r)).trans (m2x p q r))
    · refine e_lpush rfl ?_
      refine e_goto rfl ?_
      refine e_lasJ (t := 9) (n := 11) rfl (show sh[346]? = some (21, 11) from (hM.2 55 _ rfl).1) rfl (by decide) (by decide) (fun M1x gm1x fm1x => ?_)
      refine Eg.pk [0, 1, 2, 3] [0, 1, 2, 3] rfl (by decide) ?_
      exact s10x M1x (wr_n m1x (gm1x.trans (show Int32.toInt64 0 = ask v k 9 from congrArg Int32.toInt64 (if_pos b200x).symm)) fm1x) (fun p q r => (fm1x p q (Or.inl r)).trans (m2x p q r))
  have s8x : ∀ M : Nat → Nat → Int64, (∀ j, j < 8 → M 346 j = ask v k j) → (∀ p q, p ≠ 346 → M p q = L p q) → Eg X xTc 5 262 175 [(0, .ref 290), (1, .int (nI k)), (2, .int (nI (sc v k))), (3, .int (sw v k))] [] (sh, I, M, R) (fun r h' => r = none ∧ ∃ M : Nat → Nat → Int64, h' = (sh, I, M, R) ∧ (∀ j, j < 11 → M 346 j = ask v k j) ∧ ∀ p q, p ≠ 346 → M p q = L p q) := by
    intro M m1x m2x
    refine e_aload rfl rfl ?_
    refine e_getR rfl hM.1 (show R 290 67 = some 346 from (hM.2 55 _ rfl).2) ?_
    refine e_ipush rfl ?_
    refine e_iload rfl rfl ?_
    refine e_ipush rfl ?_
    refine e_cne_b rfl (fun b183x => ?_) (fun b183x => ?_)
    · refine e_lpush rfl ?_
      refine e_lasJ (t := 8) (n := 11) rfl (show sh[346]? = some (21, 11) from (hM.2 55 _ rfl).1) rfl (by decide) (by decide) (fun M1x gm1x fm1x => ?_)
      refine Eg.pk [0, 1, 2, 3] [0, 1, 2, 3] rfl (by decide) ?_
      exact s9x M1x (wr_n m1x (gm1x.trans (show Int32.toInt64 1 = ask v k 8 from congrArg Int32.toInt64 (if_neg b183x).symm)) fm1x) (fun p q r => (fm1x p q (Or.inl r)).trans (m2x p q r))
    · refine e_lpush rfl ?_
      refine e_goto rfl ?_
      refine e_lasJ (t := 8) (n := 11) rfl (show sh[346]? = some (21, 11) from (hM.2 55 _ rfl).1) rfl (by decide) (by decide) (fun M1x gm1x fm1x => ?_)
      refine Eg.pk [0, 1, 2, 3] [0, 1, 2, 3] rfl (by decide) ?_
      exact s9x M1x (wr_n m1x (gm1x.trans (show Int32.toInt64 0 = ask v k 8 from congrArg Int32.toInt64 (if_pos b183x).symm)) fm1x) (fun p q r => (fm1x p q (Or.inl r)).trans (m2x p q r))
  have s7x : ∀ M : Nat → Nat → Int64, (∀ j, j < 7 → M 346 j = ask v k j) → (∀ p q, p ≠ 346 → M p q = L p q) → Eg X xTc 5 262 135 [(0, .ref 290), (1, .int (nI k)), (2, .int (nI (sc v k))), (3, .int (sw v k))] [] (sh, I, M, R) (fun r h' => r = none ∧ ∃ M : Nat → Nat → Int64, h' = (sh, I, M, R) ∧ (∀ j, j < 11 → M 346 j = ask v k j) ∧ ∀ p q, p ≠ 346 → M p q = L p q) := by
    intro M m1x m2x
    refine e_aload rfl rfl ?_
    refine e_getR rfl hM.1 (show R 290 67 = some 346 from (hM.2 55 _ rfl).2) ?_
    refine e_ipush rfl ?_
    refine e_aload rfl rfl ?_
    refine e_iload rfl rfl ?_
    refine e_ipush rfl ?_
    refine e_iadd rfl ?_
    refine Eg.p2 rfl (by decide) (by decide) rfl (Nat.le_of_ble_eq_true rfl) (xrcv_of rfl hM.1 rfl) ((ms_isCell hM hv hw).mono (by decide)) ?_
    refine e_ifeq_b rfl (fun b148x => ?_) (fun b148x => ?_)
    · have c148x : ¬ sc v k + 1 < cn v 0 := fun q => yn_0.mp b148x (by rw [nI_1]; exact fun r => r.elim (nI_pos (by omega)) (nI_ge (by omega) (by omega)))
      refine e_lpush rfl ?_
      refine e_lasJ (t := 7) (n := 11) rfl (show sh[346]? = some (21, 11) from (hM.2 55 _ rfl).1) rfl (by decide) (by decide) (fun M1x gm1x fm1x => ?_)
      refine Eg.pk [0, 1, 2, 3] [0, 1, 2, 3] rfl (by decide) ?_
      exact s8x M1x (wr_n m1x (gm1x.trans (show Int32.toInt64 99 = ask v k 7 from congrArg Int32.toInt64 (if_neg c148x).symm)) fm1x) (fun p q r => (fm1x p q (Or.inl r)).trans (m2x p q r))
    · have c148x : sc v k + 1 < cn v 0 := Decidable.byContradiction (fun q => yn_n0.mp b148x (Or.inr (by rw [nI_1]; exact (nI_lei (by omega) (by omega)).mpr (by omega))))
      refine e_aload rfl rfl ?_
      refine e_iload rfl rfl ?_
      refine e_ipush rfl ?_
      refine e_iadd rfl ?_
      rw [show (nI (sc v k)) + 1 = nI (sc v k + 1) from (nI_1 _)]
      refine e_aload rfl rfl ?_
      refine e_getR rfl hM.1 (show R 290 1 = some 291 from (hM.2 0 _ rfl).2) ?_
      refine e_ipush rfl ?_
      refine e_ialv (t := 7) (n := 14) rfl (show sh[291]? = some (20, 14) from (hM.2 0 _ rfl).1) rfl (by decide) (by decide) (hv.n hw (j := 7) (by decide)) ?_
      refine e_ipush rfl ?_
      refine e_iadd rfl ?_
      refine Eg.p3 rfl (by decide) (by decide) rfl (Nat.le_of_ble_eq_true rfl) (xrcv_of rfl hM.1 rfl) ((ms_heightNow hM hv hw (c := sc v k + 1) (by omega)).mono (by decide)) ?_
      refine e_i2l rfl ?_
      refine e_goto rfl ?_
      refine e_lasJ (t := 7) (n := 11) rfl (show sh[346]? = some (21, 11) from (hM.2 55 _ rfl).1) rfl (by decide) (by decide) (fun M1x gm1x fm1x => ?_)
      refine Eg.pk [0, 1, 2, 3] [0, 1, 2, 3] rfl (by decide) ?_
      exact s8x M1x (wr_n m1x (gm1x.trans (show _ = ask v k 7 from congrArg Int32.toInt64 (if_pos c148x).symm)) fm1x) (fun p q r => (fm1x p q (Or.inl r)).trans (m2x p q r))
  have s6x : ∀ M : Nat → Nat → Int64, (∀ j, j < 6 → M 346 j = ask v k j) → (∀ p q, p ≠ 346 → M p q = L p q) → Eg X xTc 5 262 95 [(0, .ref 290), (1, .int (nI k)), (2, .int (nI (sc v k))), (3, .int (sw v k))] [] (sh, I, M, R) (fun r h' => r = none ∧ ∃ M : Nat → Nat → Int64, h' = (sh, I, M, R) ∧ (∀ j, j < 11 → M 346 j = ask v k j) ∧ ∀ p q, p ≠ 346 → M p q = L p q) := by
    intro M m1x m2x
    refine e_aload rfl rfl ?_
    refine e_getR rfl hM.1 (show R 290 67 = some 346 from (hM.2 55 _ rfl).2) ?_
    refine e_ipush rfl ?_
    refine e_aload rfl rfl ?_
    refine e_iload rfl rfl ?_
    refine e_ipush rfl ?_
    refine e_isub rfl ?_
    refine Eg.p2 rfl (by decide) (by decide) rfl (Nat.le_of_ble_eq_true rfl) (xrcv_of rfl hM.1 rfl) ((ms_isCell hM hv hw).mono (by decide)) ?_
    refine e_ifeq_b rfl (fun b108x => ?_) (fun b108x => ?_)
    · have c108x : ¬ 1 ≤ sc v k := fun q => yn_0.mp b108x (by rw [show nI (sc v k) - 1 = nI (sc v k - 1) from nI_sub (b := 1) q]; exact fun r => r.elim (nI_pos (by omega)) (nI_ge (by omega) (by omega)))
      refine e_lpush rfl ?_
      refine e_lasJ (t := 6) (n := 11) rfl (show sh[346]? = some (21, 11) from (hM.2 55 _ rfl).1) rfl (by decide) (by decide) (fun M1x gm1x fm1x => ?_)
      refine Eg.pk [0, 1, 2, 3] [0, 1, 2, 3] rfl (by decide) ?_
      exact s7x M1x (wr_n m1x (gm1x.trans (show Int32.toInt64 99 = ask v k 6 from congrArg Int32.toInt64 (if_neg c108x).symm)) fm1x) (fun p q r => (fm1x p q (Or.inl r)).trans (m2x p q r))
    · have c108x : 1 ≤ sc v k := Decidable.byContradiction (fun q => absurd (yn_n0.mp b108x) (by rw [show sc v k = 0 by omega]; exact fun r => r (Or.inl (by decide))))
      refine e_aload rfl rfl ?_
      refine e_iload rfl rfl ?_
      refine e_ipush rfl ?_
      refine e_isub rfl ?_
      rw [show (nI (sc v k)) - 1 = nI (sc v k - 1) from (nI_sub (b := 1) c108x)]
      refine e_aload rfl rfl ?_
      refine e_getR rfl hM.1 (show R 290 1 = some 291 from (hM.2 0 _ rfl).2) ?_
      refine e_ipush rfl ?_
      refine e_ialv (t := 7) (n := 14) rfl (show sh[291]? = some (20, 14) from (hM.2 0 _ rfl).1) rfl (by decide) (by decide) (hv.n hw (j := 7) (by decide)) ?_
      refine e_ipush rfl ?_
      refine e_iadd rfl ?_
      refine Eg.p3 rfl (by decide) (by decide) rfl (Nat.le_of_ble_eq_true rfl) (xrcv_of rfl hM.1 rfl) ((ms_heightNow hM hv hw (c := sc v k - 1) (by omega)).mono (by decide)) ?_
      refine e_i2l rfl ?_
      refine e_goto rfl ?_
      refine e_lasJ (t := 6) (n := 11) rfl (show sh[346]? = some (21, 11) from (hM.2 55 _ rfl).1) rfl (by decide) (by decide) (fun M1x gm1x fm1x => ?_)
      refine Eg.pk [0, 1, 2, 3] [0, 1, 2, 3] rfl (by decide) ?_
      exact s7x M1x (wr_n m1x (gm1x.trans (show _ = ask v k 6 from congrArg Int32.toInt64 (if_pos c108x).symm)) fm1x) (fun p q r => (fm1x p q (Or.inl r)).trans (m2x p q r))
  have s5x : ∀ M : Nat → Nat → Int64, (∀ j, j < 5 → M 346 j = ask v k j) → (∀ p q, p ≠ 346 → M p q = L p q) → Eg X xTc 5 262 76 [(0, .ref 290), (1, .int (nI k)), (2, .int (nI (sc v k))), (3, .int (sw v k))] [] (sh, I, M, R) (fun r h' => r = none ∧ ∃ M : Nat → Nat → Int64, h' = (sh, I, M, R) ∧ (∀ j, j < 11 → M 346 j = ask v k j) ∧ ∀ p q, p ≠ 346 → M p q = L p q) := by
    intro M m1x m2x
    refine e_aload rfl rfl ?_
    refine e_getR rfl hM.1 (show R 290 67 = some 346 from (hM.2 55 _ rfl).2) ?_
    refine e_ipush rfl ?_
    refine e_aload rfl rfl ?_
    refine e_iload rfl rfl ?_
    refine e_aload rfl rfl ?_
    refine e_getR rfl hM.1 (show R 290 1 = some 291 from (hM.2 0 _ rfl).2) ?_
    refine e_ipush rfl ?_
    refine e_ialv (t := 7) (n := 14) rfl (show sh[291]? = some (20, 14) from (hM.2 0 _ rfl).1) rfl (by decide) (by decide) (hv.n hw (j := 7) (by decide)) ?_
    refine Eg.p3 rfl (by decide) (by decide) rfl (Nat.le_of_ble_eq_true rfl) (xrcv_of rfl hM.1 rfl) ((ms_heightNow hM hv hw (c := sc v k) (by omega)).mono (by decide)) ?_
    refine e_i2l rfl ?_
    refine e_lasJ (t := 5) (n := 11) rfl (show sh[346]? = some (21, 11) from (hM.2 55 _ rfl).1) rfl (by decide) (by decide) (fun M1x gm1x fm1x => ?_)
    refine Eg.pk [0, 1, 2, 3] [0, 1, 2, 3] rfl (by decide) ?_
    exact s6x M1x (wr_n m1x (gm1x.trans rfl) fm1x) (fun p q r => (fm1x p q (Or.inl r)).trans (m2x p q r))
  have s4x : ∀ M : Nat → Nat → Int64, (∀ j, j < 4 → M 346 j = ask v k j) → (∀ p q, p ≠ 346 → M p q = L p q) → Eg X xTc 5 262 63 [(0, .ref 290), (1, .int (nI k)), (2, .int (nI (sc v k))), (3, .int (sw v k))] [] (sh, I, M, R) (fun r h' => r = none ∧ ∃ M : Nat → Nat → Int64, h' = (sh, I, M, R) ∧ (∀ j, j < 11 → M 346 j = ask v k j) ∧ ∀ p q, p ≠ 346 → M p q = L p q) := by
    intro M m1x m2x
    refine e_aload rfl rfl ?_
    refine e_getR rfl hM.1 (show R 290 67 = some 346 from (hM.2 55 _ rfl).2) ?_
    refine e_ipush rfl ?_
    refine e_aload rfl rfl ?_
    refine e_getR rfl hM.1 (show R 290 15 = some 305 from (hM.2 14 _ rfl).2) ?_
    refine e_iload rfl rfl ?_
    refine e_ialv (t := k) (n := 4) rfl (show sh[305]? = some (20, 4) from (hM.2 14 _ rfl).1) rfl (by omega) (by decide) (hv 15 k (by decide)) ?_
    refine e_i2l rfl ?_
    refine e_lasJ (t := 4) (n := 11) rfl (show sh[346]? = some (21, 11) from (hM.2 55 _ rfl).1) rfl (by decide) (by decide) (fun M1x gm1x fm1x => ?_)
    refine Eg.pk [0, 1, 2, 3] [0, 1, 2, 3] rfl (by decide) ?_
    exact s5x M1x (wr_n m1x (gm1x.trans rfl) fm1x) (fun p q r => (fm1x p q (Or.inl r)).trans (m2x p q r))
  have s3x : ∀ M : Nat → Nat → Int64, (∀ j, j < 3 → M 346 j = ask v k j) → (∀ p q, p ≠ 346 → M p q = L p q) → Eg X xTc 5 262 50 [(0, .ref 290), (1, .int (nI k)), (2, .int (nI (sc v k))), (3, .int (sw v k))] [] (sh, I, M, R) (fun r h' => r = none ∧ ∃ M : Nat → Nat → Int64, h' = (sh, I, M, R) ∧ (∀ j, j < 11 → M 346 j = ask v k j) ∧ ∀ p q, p ≠ 346 → M p q = L p q) := by
    intro M m1x m2x
    refine e_aload rfl rfl ?_
    refine e_getR rfl hM.1 (show R 290 67 = some 346 from (hM.2 55 _ rfl).2) ?_
    refine e_ipush rfl ?_
    refine e_aload rfl rfl ?_
    refine e_getR rfl hM.1 (show R 290 14 = some 304 from (hM.2 13 _ rfl).2) ?_
    refine e_iload rfl rfl ?_
    refine e_ialv (t := k) (n := 4) rfl (show sh[304]? = some (20, 4) from (hM.2 13 _ rfl).1) rfl (by omega) (by decide) (hv 14 k (by decide)) ?_
    refine e_i2l rfl ?_
    refine e_lasJ (t := 3) (n := 11) rfl (show sh[346]? = some (21, 11) from (hM.2 55 _ rfl).1) rfl (by decide) (by decide) (fun M1x gm1x fm1x => ?_)
    refine Eg.pk [0, 1, 2, 3] [0, 1, 2, 3] rfl (by decide) ?_
    exact s4x M1x (wr_n m1x (gm1x.trans rfl) fm1x) (fun p q r => (fm1x p q (Or.inl r)).trans (m2x p q r))
  have s2x : ∀ M : Nat → Nat → Int64, (∀ j, j < 2 → M 346 j = ask v k j) → (∀ p q, p ≠ 346 → M p q = L p q) → Eg X xTc 5 262 36 [(0, .ref 290), (1, .int (nI k)), (2, .int (nI (sc v k))), (3, .int (sw v k))] [] (sh, I, M, R) (fun r h' => r = none ∧ ∃ M : Nat → Nat → Int64, h' = (sh, I, M, R) ∧ (∀ j, j < 11 → M 346 j = ask v k j) ∧ ∀ p q, p ≠ 346 → M p q = L p q) := by
    intro M m1x m2x
    refine e_aload rfl rfl ?_
    refine e_getR rfl hM.1 (show R 290 67 = some 346 from (hM.2 55 _ rfl).2) ?_
    refine e_ipush rfl ?_
    refine e_aload rfl rfl ?_
    refine e_getR rfl hM.1 (show R 290 1 = some 291 from (hM.2 0 _ rfl).2) ?_
    refine e_ipush rfl ?_
    refine e_ialv (t := 7) (n := 14) rfl (show sh[291]? = some (20, 14) from (hM.2 0 _ rfl).1) rfl (by decide) (by decide) (hv.n hw (j := 7) (by decide)) ?_
    refine e_i2l rfl ?_
    refine e_lasJ (t := 2) (n := 11) rfl (show sh[346]? = some (21, 11) from (hM.2 55 _ rfl).1) rfl (by decide) (by decide) (fun M1x gm1x fm1x => ?_)
    refine Eg.pk [0, 1, 2, 3] [0, 1, 2, 3] rfl (by decide) ?_
    exact s3x M1x (wr_n m1x (gm1x.trans rfl) fm1x) (fun p q r => (fm1x p q (Or.inl r)).trans (m2x p q r))
  have s1x : ∀ M : Nat → Nat → Int64, (∀ j, j < 1 → M 346 j = ask v k j) → (∀ p q, p ≠ 346 → M p q = L p q) → Eg X xTc 5 262 28 [(0, .ref 290), (1, .int (nI k)), (2, .int (nI (sc v k))), (3, .int (sw v k))] [] (sh, I, M, R) (fun r h' => r = none ∧ ∃ M : Nat → Nat → Int64, h' = (sh, I, M, R) ∧ (∀ j, j < 11 → M 346 j = ask v k j) ∧ ∀ p q, p ≠ 346 → M p q = L p q) := by
    intro M m1x m2x
    refine e_aload rfl rfl ?_
    refine e_getR rfl hM.1 (show R 290 67 = some 346 from (hM.2 55 _ rfl).2) ?_
    refine e_ipush rfl ?_
    refine e_iload rfl rfl ?_
    refine e_i2l rfl ?_
    refine e_lasJ (t := 1) (n := 11) rfl (show sh[346]? = some (21, 11) from (hM.2 55 _ rfl).1) rfl (by decide) (by decide) (fun M1x gm1x fm1x => ?_)
    refine Eg.pk [0, 1, 2, 3] [0, 1, 2, 3] rfl (by decide) ?_
    exact s2x M1x (wr_n m1x (gm1x.trans (show _ = ask v k 1 from congrArg Int32.toInt64 e13x.symm)) fm1x) (fun p q r => (fm1x p q (Or.inl r)).trans (m2x p q r))
  have s0x : ∀ M : Nat → Nat → Int64, (∀ j, j < 0 → M 346 j = ask v k j) → (∀ p q, p ≠ 346 → M p q = L p q) → Eg X xTc 5 262 20 [(0, .ref 290), (1, .int (nI k)), (2, .int (nI (sc v k))), (3, .int (sw v k))] [] (sh, I, M, R) (fun r h' => r = none ∧ ∃ M : Nat → Nat → Int64, h' = (sh, I, M, R) ∧ (∀ j, j < 11 → M 346 j = ask v k j) ∧ ∀ p q, p ≠ 346 → M p q = L p q) := by
    intro M m1x m2x
    refine e_aload rfl rfl ?_
    refine e_getR rfl hM.1 (show R 290 67 = some 346 from (hM.2 55 _ rfl).2) ?_
    refine e_ipush rfl ?_
    refine e_iload rfl rfl ?_
    refine e_i2l rfl ?_
    refine e_lasJ (t := 0) (n := 11) rfl (show sh[346]? = some (21, 11) from (hM.2 55 _ rfl).1) rfl (by decide) (by decide) (fun M1x gm1x fm1x => ?_)
    refine Eg.pk [0, 1, 2, 3] [0, 1, 2, 3] rfl (by decide) ?_
    exact s1x M1x (wr_n m1x (gm1x.trans rfl) fm1x) (fun p q r => (fm1x p q (Or.inl r)).trans (m2x p q r))
  refine Ec.of (Nat.le_of_ble_eq_true rfl) ?_
  refine e_aload rfl rfl ?_
  refine e_getR rfl hM.1 (show R 290 13 = some 303 from (hM.2 12 _ rfl).2) ?_
  refine e_iload rfl rfl ?_
  refine e_ialv (t := k) (n := 4) rfl (show sh[303]? = some (20, 4) from (hM.2 12 _ rfl).1) rfl (by omega) (by decide) ((hv 13 k (by decide)).trans e13x) ?_
  refine e_istore rfl ?_
  refine e_aload rfl rfl ?_
  refine e_iload rfl rfl ?_
  refine e_aload rfl rfl ?_
  refine e_getR rfl hM.1 (show R 290 1 = some 291 from (hM.2 0 _ rfl).2) ?_
  refine e_ipush rfl ?_
  refine e_ialv (t := 7) (n := 14) rfl (show sh[291]? = some (20, 14) from (hM.2 0 _ rfl).1) rfl (by decide) (by decide) (hv.n hw (j := 7) (by decide)) ?_
  refine Eg.p3 rfl (by decide) (by decide) rfl (Nat.le_of_ble_eq_true rfl) (xrcv_of rfl hM.1 rfl) ((ms_wellAt hM hv hw (c := sc v k) (by omega)).mono (by decide)) ?_
  refine e_istore rfl ?_
  refine Eg.pk [0, 1, 2, 3] [3, 2, 0, 1] rfl (by decide) ?_
  exact s0x L (fun j q => absurd q (Nat.not_lt_zero _)) (fun _ _ _ => rfl)
theorem cs_tellWords (hC : CrAt sh R) (hS : SeaAt sh R s) (hV : SeaV I s v) (hw : Wf v) (hM : MomAt sh R m) (hms : R m 0 = some s) (hW : MomV I m v) {k : Nat} (hk : k < cn v 4) (hm : m + 8 < 237 ∨ 237 < m) (hs : s + 12 < 237 ∨ 237 < s) : Ec X 5 3 [.ref 237, .ref m, .int (nI k)] (sh, I, L, R) (fun r h' => r = none ∧ ∃ (J : Nat → Nat → Int32) (M : Nat → Nat → Int64), h' = (sh, J, M, R) ∧ (∀ j, j < 11 → M 239 (wvx.getD j 0) = ask v k j) ∧ J 237 4 = sw v k ∧ (∀ p q, p ≠ 237 ∨ q ≠ 4 → J p q = I p q) ∧ ∀ p q, p ≠ 239 → M p q = L p q) := by
  obtain ⟨e13x, l13x⟩ := sc_nI hw hk
  have h12x := hw.1.2.1
  have h44x := hw.1.2.2.2.2.2.1
  have i13x : I (m + 1) k = nI (sc v k) := (hW.2.2.1 k hk).1.trans e13x
  refine Ec.of (Nat.le_of_ble_eq_true rfl) ?_
  refine e_aload rfl rfl ?_
  refine e_getR rfl hM.1 hms ?_
  refine e_astore rfl ?_
  refine e_aload rfl rfl ?_
  refine e_getR rfl hM.1 (hM.2 0 _ rfl).2 ?_
  refine e_iload rfl rfl ?_
  refine e_ialv (t := k) (n := 4) rfl (hM.2 0 _ rfl).1 rfl (by omega) (by decide) i13x ?_
  refine e_istore rfl ?_
  refine e_aload rfl rfl ?_
  refine e_getIv rfl hM.1 hW.1 ?_
  refine e_ipush rfl ?_
  refine e_iadd rfl ?_
  refine e_istore rfl ?_
  refine e_aload rfl rfl ?_
  refine e_aload rfl rfl ?_
  refine e_iload rfl rfl ?_
  refine Eg.p2 rfl (by decide) (by decide) rfl (Nat.le_of_ble_eq_true rfl) (xrcv_of rfl hM.1 rfl) ((cs_wellOf hS hV hw hM hms hW (c := sc v k) (by omega)).mono (by decide)) ?_
  refine e_putIJ rfl hC.1 (fun J1x g1x f1x => ?_)
  refine Eg.pk [0, 1, 2, 3, 4, 5] [5, 4, 3, 0, 1, 2] rfl (by decide) ?_
  have hV1x : SeaV J1x s v := hV.fr (fun i k a b => f1x i k (by omega))
  have hW1x : MomV J1x m v := hW.fr (fun i k a b => f1x i k (by omega))
  have j13x : J1x (m + 1) k = nI (sc v k) := (f1x _ _ (by omega)).trans i13x
  have s10x : ∀ M : Nat → Nat → Int64, (∀ j, j < 10 → M 239 (wvx.getD j 0) = ask v k j) → (∀ p q, p ≠ 239 → M p q = L p q) → Eg X xTc 4 3 225 [(0, .ref 237), (1, .ref m), (2, .int (nI k)), (3, .ref s), (4, .int (nI (sc v k))), (5, .int (nI (cn v 7) + 1))] [] (sh, J1x, M, R) (fun r h' => r = none ∧ ∃ (J : Nat → Nat → Int32) (M : Nat → Nat → Int64), h' = (sh, J, M, R) ∧ (∀ j, j < 11 → M 239 (wvx.getD j 0) = ask v k j) ∧ J 237 4 = sw v k ∧ (∀ p q, p ≠ 237 ∨ q ≠ 4 → J p q = I p q) ∧ ∀ p q, p ≠ 239 → M p q = L p q) := by
    intro M m1x m2x
    refine e_aload rfl rfl ?_
    refine e_getR rfl hC.1 hC.2.2.2.2.2.1 ?_
    refine e_ipush rfl ?_
    refine e_aload rfl rfl ?_
    refine e_getR rfl hM.1 (hM.2 2 _ rfl).2 ?_
    refine e_iload rfl rfl ?_
    refine e_ialv (t := k) (n := 4) rfl (hM.2 2 _ rfl).1 rfl (by omega) (by decide) (hW1x.2.2.1 k (by omega)).2.2.1 ?_
    refine e_i2l rfl ?_
    refine e_lasJ (t := 21) (n := 22) rfl hC.2.2.1 rfl (by decide) (by decide) (fun M1x gm1x fm1x => ?_)
    exact Eg.ret rfl (by decide) rfl ⟨rfl, J1x, M1x, rfl, wr_w m1x (by decide) (t := 21) rfl (gm1x.trans rfl) fm1x, g1x, f1x, fun p q r => (fm1x p q (Or.inl r)).trans (m2x p q r)⟩
  have s9x : ∀ M : Nat → Nat → Int64, (∀ j, j < 9 → M 239 (wvx.getD j 0) = ask v k j) → (∀ p q, p ≠ 239 → M p q = L p q) → Eg X xTc 4 3 196 [(0, .ref 237), (1, .ref m), (2, .int (nI k)), (3, .ref s), (4, .int (nI (sc v k))), (5, .int (nI (cn v 7) + 1))] [] (sh, J1x, M, R) (fun r h' => r = none ∧ ∃ (J : Nat → Nat → Int32) (M : Nat → Nat → Int64), h' = (sh, J, M, R) ∧ (∀ j, j < 11 → M 239 (wvx.getD j 0) = ask v k j) ∧ J 237 4 = sw v k ∧ (∀ p q, p ≠ 237 ∨ q ≠ 4 → J p q = I p q) ∧ ∀ p q, p ≠ 239 → M p q = L p q) := by
    intro M m1x m2x
    refine e_aload rfl rfl ?_
    refine e_getR rfl hC.1 hC.2.2.2.2.2.1 ?_
    refine e_ipush rfl ?_
    refine e_aload rfl rfl ?_
    refine e_getIv rfl hC.1 g1x ?_
    refine e_ipush rfl ?_
    refine e_cne_b rfl (fun b207x => ?_) (fun b207x => ?_)
    · refine e_aload rfl rfl ?_
      refine e_getR rfl hS.1 (hS.2 8 _ rfl).2 ?_
      refine e_aload rfl rfl ?_
      refine e_getIv rfl hC.1 g1x ?_
      obtain ⟨bb, bb1x, bb2x, bb3x, bb4x⟩ := (sw_bd hw (k := k)).resolve_left b207x
      refine e_ialv (t := bb) (n := 8) rfl (hS.2 8 _ rfl).1 bb3x (by omega) (by decide) (show J1x (s + 9) bb = pco v (sw v k).toNatClampNeg from ((hV1x.p bb4x hw).2.2).trans (by rw [bb3x, nI_clamp (by omega)])) ?_
      refine e_i2l rfl ?_
      refine e_lasJ (t := 20) (n := 22) rfl hC.2.2.1 rfl (by decide) (by decide) (fun M1x gm1x fm1x => ?_)
      exact s10x M1x (wr_w m1x (by decide) (t := 20) rfl (gm1x.trans (show _ = ask v k 9 from congrArg Int32.toInt64 (if_neg b207x).symm)) fm1x) (fun p q r => (fm1x p q (Or.inl r)).trans (m2x p q r))
    · refine e_lpush rfl ?_
      refine e_goto rfl ?_
      refine e_lasJ (t := 20) (n := 22) rfl hC.2.2.1 rfl (by decide) (by decide) (fun M1x gm1x fm1x => ?_)
      exact s10x M1x (wr_w m1x (by decide) (t := 20) rfl (gm1x.trans (show Int32.toInt64 0 = ask v k 9 from congrArg Int32.toInt64 (if_pos b207x).symm)) fm1x) (fun p q r => (fm1x p q (Or.inl r)).trans (m2x p q r))
  have s8x : ∀ M : Nat → Nat → Int64, (∀ j, j < 8 → M 239 (wvx.getD j 0) = ask v k j) → (∀ p q, p ≠ 239 → M p q = L p q) → Eg X xTc 4 3 177 [(0, .ref 237), (1, .ref m), (2, .int (nI k)), (3, .ref s), (4, .int (nI (sc v k))), (5, .int (nI (cn v 7) + 1))] [] (sh, J1x, M, R) (fun r h' => r = none ∧ ∃ (J : Nat → Nat → Int32) (M : Nat → Nat → Int64), h' = (sh, J, M, R) ∧ (∀ j, j < 11 → M 239 (wvx.getD j 0) = ask v k j) ∧ J 237 4 = sw v k ∧ (∀ p q, p ≠ 237 ∨ q ≠ 4 → J p q = I p q) ∧ ∀ p q, p ≠ 239 → M p q = L p q) := by
    intro M m1x m2x
    refine e_aload rfl rfl ?_
    refine e_getR rfl hC.1 hC.2.2.2.2.2.1 ?_
    refine e_ipush rfl ?_
    refine e_aload rfl rfl ?_
    refine e_getIv rfl hC.1 g1x ?_
    refine e_ipush rfl ?_
    refine e_cne_b rfl (fun b187x => ?_) (fun b187x => ?_)
    · refine e_lpush rfl ?_
      refine e_lasJ (t := 3) (n := 22) rfl hC.2.2.1 rfl (by decide) (by decide) (fun M1x gm1x fm1x => ?_)
      exact s9x M1x (wr_w m1x (by decide) (t := 3) rfl (gm1x.trans (show Int32.toInt64 1 = ask v k 8 from congrArg Int32.toInt64 (if_neg b187x).symm)) fm1x) (fun p q r => (fm1x p q (Or.inl r)).trans (m2x p q r))
    · refine e_lpush rfl ?_
      refine e_goto rfl ?_
      refine e_lasJ (t := 3) (n := 22) rfl hC.2.2.1 rfl (by decide) (by decide) (fun M1x gm1x fm1x => ?_)
      exact s9x M1x (wr_w m1x (by decide) (t := 3) rfl (gm1x.trans (show Int32.toInt64 0 = ask v k 8 from congrArg Int32.toInt64 (if_pos b187x).symm)) fm1x) (fun p q r => (fm1x p q (Or.inl r)).trans (m2x p q r))
  have s7x : ∀ M : Nat → Nat → Int64, (∀ j, j < 7 → M 239 (wvx.getD j 0) = ask v k j) → (∀ p q, p ≠ 239 → M p q = L p q) → Eg X xTc 4 3 142 [(0, .ref 237), (1, .ref m), (2, .int (nI k)), (3, .ref s), (4, .int (nI (sc v k))), (5, .int (nI (cn v 7) + 1))] [] (sh, J1x, M, R) (fun r h' => r = none ∧ ∃ (J : Nat → Nat → Int32) (M : Nat → Nat → Int64), h' = (sh, J, M, R) ∧ (∀ j, j < 11 → M 239 (wvx.getD j 0) = ask v k j) ∧ J 237 4 = sw v k ∧ (∀ p q, p ≠ 237 ∨ q ≠ 4 → J p q = I p q) ∧ ∀ p q, p ≠ 239 → M p q = L p q) := by
    intro M m1x m2x
    refine e_aload rfl rfl ?_
    refine e_getR rfl hC.1 hC.2.2.2.2.2.1 ?_
    refine e_ipush rfl ?_
    refine e_aload rfl rfl ?_
    refine e_iload rfl rfl ?_
    refine e_ipush rfl ?_
    refine e_iadd rfl ?_
    refine Eg.p2 rfl (by decide) (by decide) rfl (Nat.le_of_ble_eq_true rfl) (xrcv_of rfl hS.1 rfl) ((cs_hasCellV hS hV1x).mono (by decide)) ?_
    refine e_ifeq_b rfl (fun b156x => ?_) (fun b156x => ?_)
    · have c156x : ¬ sc v k + 1 < cn v 0 := fun q => yn_0.mp b156x (by rw [nI_1]; exact fun r => r.elim (nI_pos (by omega)) (nI_ge (by omega) (by omega)))
      refine e_lpush rfl ?_
      refine e_lasJ (t := 19) (n := 22) rfl hC.2.2.1 rfl (by decide) (by decide) (fun M1x gm1x fm1x => ?_)
      exact s8x M1x (wr_w m1x (by decide) (t := 19) rfl (gm1x.trans (show Int32.toInt64 99 = ask v k 7 from congrArg Int32.toInt64 (if_neg c156x).symm)) fm1x) (fun p q r => (fm1x p q (Or.inl r)).trans (m2x p q r))
    · have c156x : sc v k + 1 < cn v 0 := Decidable.byContradiction (fun q => yn_n0.mp b156x (Or.inr (by rw [nI_1]; exact (nI_lei (by omega) (by omega)).mpr (by omega))))
      refine e_aload rfl rfl ?_
      refine e_iload rfl rfl ?_
      refine e_ipush rfl ?_
      refine e_iadd rfl ?_
      rw [show (nI (sc v k)) + 1 = nI (sc v k + 1) from (nI_1 _)]
      refine e_iload rfl rfl ?_
      refine Eg.p3 rfl (by decide) (by decide) rfl (Nat.le_of_ble_eq_true rfl) (xrcv_of rfl hM.1 rfl) ((cs_level hS hV1x hw hM hms hW1x (c := sc v k + 1) (by omega)).mono (by decide)) ?_
      refine e_i2l rfl ?_
      refine e_goto rfl ?_
      refine e_lasJ (t := 19) (n := 22) rfl hC.2.2.1 rfl (by decide) (by decide) (fun M1x gm1x fm1x => ?_)
      exact s8x M1x (wr_w m1x (by decide) (t := 19) rfl (gm1x.trans (show _ = ask v k 7 from congrArg Int32.toInt64 (if_pos c156x).symm)) fm1x) (fun p q r => (fm1x p q (Or.inl r)).trans (m2x p q r))
  have s6x : ∀ M : Nat → Nat → Int64, (∀ j, j < 6 → M 239 (wvx.getD j 0) = ask v k j) → (∀ p q, p ≠ 239 → M p q = L p q) → Eg X xTc 4 3 107 [(0, .ref 237), (1, .ref m), (2, .int (nI k)), (3, .ref s), (4, .int (nI (sc v k))), (5, .int (nI (cn v 7) + 1))] [] (sh, J1x, M, R) (fun r h' => r = none ∧ ∃ (J : Nat → Nat → Int32) (M : Nat → Nat → Int64), h' = (sh, J, M, R) ∧ (∀ j, j < 11 → M 239 (wvx.getD j 0) = ask v k j) ∧ J 237 4 = sw v k ∧ (∀ p q, p ≠ 237 ∨ q ≠ 4 → J p q = I p q) ∧ ∀ p q, p ≠ 239 → M p q = L p q) := by
    intro M m1x m2x
    refine e_aload rfl rfl ?_
    refine e_getR rfl hC.1 hC.2.2.2.2.2.1 ?_
    refine e_ipush rfl ?_
    refine e_aload rfl rfl ?_
    refine e_iload rfl rfl ?_
    refine e_ipush rfl ?_
    refine e_isub rfl ?_
    refine Eg.p2 rfl (by decide) (by decide) rfl (Nat.le_of_ble_eq_true rfl) (xrcv_of rfl hS.1 rfl) ((cs_hasCellV hS hV1x).mono (by decide)) ?_
    refine e_ifeq_b rfl (fun b121x => ?_) (fun b121x => ?_)
    · have c121x : ¬ 1 ≤ sc v k := fun q => yn_0.mp b121x (by rw [show nI (sc v k) - 1 = nI (sc v k - 1) from nI_sub (b := 1) q]; exact fun r => r.elim (nI_pos (by omega)) (nI_ge (by omega) (by omega)))
      refine e_lpush rfl ?_
      refine e_lasJ (t := 18) (n := 22) rfl hC.2.2.1 rfl (by decide) (by decide) (fun M1x gm1x fm1x => ?_)
      exact s7x M1x (wr_w m1x (by decide) (t := 18) rfl (gm1x.trans (show Int32.toInt64 99 = ask v k 6 from congrArg Int32.toInt64 (if_neg c121x).symm)) fm1x) (fun p q r => (fm1x p q (Or.inl r)).trans (m2x p q r))
    · have c121x : 1 ≤ sc v k := Decidable.byContradiction (fun q => absurd (yn_n0.mp b121x) (by rw [show sc v k = 0 by omega]; exact fun r => r (Or.inl (by decide))))
      refine e_aload rfl rfl ?_
      refine e_iload rfl rfl ?_
      refine e_ipush rfl ?_
      refine e_isub rfl ?_
      rw [show (nI (sc v k)) - 1 = nI (sc v k - 1) from (nI_sub (b := 1) c121x)]
      refine e_iload rfl rfl ?_
      refine Eg.p3 rfl (by decide) (by decide) rfl (Nat.le_of_ble_eq_true rfl) (xrcv_of rfl hM.1 rfl) ((cs_level hS hV1x hw hM hms hW1x (c := sc v k - 1) (by omega)).mono (by decide)) ?_
      refine e_i2l rfl ?_
      refine e_goto rfl ?_
      refine e_lasJ (t := 18) (n := 22) rfl hC.2.2.1 rfl (by decide) (by decide) (fun M1x gm1x fm1x => ?_)
      exact s7x M1x (wr_w m1x (by decide) (t := 18) rfl (gm1x.trans (show _ = ask v k 6 from congrArg Int32.toInt64 (if_pos c121x).symm)) fm1x) (fun p q r => (fm1x p q (Or.inl r)).trans (m2x p q r))
  have s5x : ∀ M : Nat → Nat → Int64, (∀ j, j < 5 → M 239 (wvx.getD j 0) = ask v k j) → (∀ p q, p ≠ 239 → M p q = L p q) → Eg X xTc 4 3 89 [(0, .ref 237), (1, .ref m), (2, .int (nI k)), (3, .ref s), (4, .int (nI (sc v k))), (5, .int (nI (cn v 7) + 1))] [] (sh, J1x, M, R) (fun r h' => r = none ∧ ∃ (J : Nat → Nat → Int32) (M : Nat → Nat → Int64), h' = (sh, J, M, R) ∧ (∀ j, j < 11 → M 239 (wvx.getD j 0) = ask v k j) ∧ J 237 4 = sw v k ∧ (∀ p q, p ≠ 237 ∨ q ≠ 4 → J p q = I p q) ∧ ∀ p q, p ≠ 239 → M p q = L p q) := by
    intro M m1x m2x
    refine e_aload rfl rfl ?_
    refine e_getR rfl hC.1 hC.2.2.2.2.2.1 ?_
    refine e_ipush rfl ?_
    refine e_aload rfl rfl ?_
    refine e_iload rfl rfl ?_
    refine e_aload rfl rfl ?_
    refine e_getIv rfl hM.1 hW1x.1 ?_
    refine Eg.p3 rfl (by decide) (by decide) rfl (Nat.le_of_ble_eq_true rfl) (xrcv_of rfl hM.1 rfl) ((cs_level hS hV1x hw hM hms hW1x (c := sc v k) (by omega)).mono (by decide)) ?_
    refine e_i2l rfl ?_
    refine e_lasJ (t := 17) (n := 22) rfl hC.2.2.1 rfl (by decide) (by decide) (fun M1x gm1x fm1x => ?_)
    exact s6x M1x (wr_w m1x (by decide) (t := 17) rfl (gm1x.trans rfl) fm1x) (fun p q r => (fm1x p q (Or.inl r)).trans (m2x p q r))
  have s4x : ∀ M : Nat → Nat → Int64, (∀ j, j < 4 → M 239 (wvx.getD j 0) = ask v k j) → (∀ p q, p ≠ 239 → M p q = L p q) → Eg X xTc 4 3 75 [(0, .ref 237), (1, .ref m), (2, .int (nI k)), (3, .ref s), (4, .int (nI (sc v k))), (5, .int (nI (cn v 7) + 1))] [] (sh, J1x, M, R) (fun r h' => r = none ∧ ∃ (J : Nat → Nat → Int32) (M : Nat → Nat → Int64), h' = (sh, J, M, R) ∧ (∀ j, j < 11 → M 239 (wvx.getD j 0) = ask v k j) ∧ J 237 4 = sw v k ∧ (∀ p q, p ≠ 237 ∨ q ≠ 4 → J p q = I p q) ∧ ∀ p q, p ≠ 239 → M p q = L p q) := by
    intro M m1x m2x
    refine e_aload rfl rfl ?_
    refine e_getR rfl hC.1 hC.2.2.2.2.2.1 ?_
    refine e_ipush rfl ?_
    refine e_aload rfl rfl ?_
    refine e_getR rfl hS.1 (hS.2 10 _ rfl).2 ?_
    refine e_iload rfl rfl ?_
    refine e_ialv (t := k) (n := 4) rfl (hS.2 10 _ rfl).1 rfl (by omega) (by decide) (hV1x.2.2.2.2.2.2.2 k (by omega)).1 ?_
    refine e_i2l rfl ?_
    refine e_lasJ (t := 16) (n := 22) rfl hC.2.2.1 rfl (by decide) (by decide) (fun M1x gm1x fm1x => ?_)
    exact s5x M1x (wr_w m1x (by decide) (t := 16) rfl (gm1x.trans rfl) fm1x) (fun p q r => (fm1x p q (Or.inl r)).trans (m2x p q r))
  have s3x : ∀ M : Nat → Nat → Int64, (∀ j, j < 3 → M 239 (wvx.getD j 0) = ask v k j) → (∀ p q, p ≠ 239 → M p q = L p q) → Eg X xTc 4 3 61 [(0, .ref 237), (1, .ref m), (2, .int (nI k)), (3, .ref s), (4, .int (nI (sc v k))), (5, .int (nI (cn v 7) + 1))] [] (sh, J1x, M, R) (fun r h' => r = none ∧ ∃ (J : Nat → Nat → Int32) (M : Nat → Nat → Int64), h' = (sh, J, M, R) ∧ (∀ j, j < 11 → M 239 (wvx.getD j 0) = ask v k j) ∧ J 237 4 = sw v k ∧ (∀ p q, p ≠ 237 ∨ q ≠ 4 → J p q = I p q) ∧ ∀ p q, p ≠ 239 → M p q = L p q) := by
    intro M m1x m2x
    refine e_aload rfl rfl ?_
    refine e_getR rfl hC.1 hC.2.2.2.2.2.1 ?_
    refine e_ipush rfl ?_
    refine e_aload rfl rfl ?_
    refine e_getR rfl hM.1 (hM.2 1 _ rfl).2 ?_
    refine e_iload rfl rfl ?_
    refine e_ialv (t := k) (n := 4) rfl (hM.2 1 _ rfl).1 rfl (by omega) (by decide) (hW1x.2.2.1 k (by omega)).2.1 ?_
    refine e_i2l rfl ?_
    refine e_lasJ (t := 15) (n := 22) rfl hC.2.2.1 rfl (by decide) (by decide) (fun M1x gm1x fm1x => ?_)
    exact s4x M1x (wr_w m1x (by decide) (t := 15) rfl (gm1x.trans rfl) fm1x) (fun p q r => (fm1x p q (Or.inl r)).trans (m2x p q r))
  have s2x : ∀ M : Nat → Nat → Int64, (∀ j, j < 2 → M 239 (wvx.getD j 0) = ask v k j) → (∀ p q, p ≠ 239 → M p q = L p q) → Eg X xTc 4 3 49 [(0, .ref 237), (1, .ref m), (2, .int (nI k)), (3, .ref s), (4, .int (nI (sc v k))), (5, .int (nI (cn v 7) + 1))] [] (sh, J1x, M, R) (fun r h' => r = none ∧ ∃ (J : Nat → Nat → Int32) (M : Nat → Nat → Int64), h' = (sh, J, M, R) ∧ (∀ j, j < 11 → M 239 (wvx.getD j 0) = ask v k j) ∧ J 237 4 = sw v k ∧ (∀ p q, p ≠ 237 ∨ q ≠ 4 → J p q = I p q) ∧ ∀ p q, p ≠ 239 → M p q = L p q) := by
    intro M m1x m2x
    refine e_aload rfl rfl ?_
    refine e_getR rfl hC.1 hC.2.2.2.2.2.1 ?_
    refine e_ipush rfl ?_
    refine e_aload rfl rfl ?_
    refine e_getIv rfl hM.1 hW1x.1 ?_
    refine e_i2l rfl ?_
    refine e_lasJ (t := 14) (n := 22) rfl hC.2.2.1 rfl (by decide) (by decide) (fun M1x gm1x fm1x => ?_)
    exact s3x M1x (wr_w m1x (by decide) (t := 14) rfl (gm1x.trans rfl) fm1x) (fun p q r => (fm1x p q (Or.inl r)).trans (m2x p q r))
  have s1x : ∀ M : Nat → Nat → Int64, (∀ j, j < 1 → M 239 (wvx.getD j 0) = ask v k j) → (∀ p q, p ≠ 239 → M p q = L p q) → Eg X xTc 4 3 39 [(0, .ref 237), (1, .ref m), (2, .int (nI k)), (3, .ref s), (4, .int (nI (sc v k))), (5, .int (nI (cn v 7) + 1))] [] (sh, J1x, M, R) (fun r h' => r = none ∧ ∃ (J : Nat → Nat → Int32) (M : Nat → Nat → Int64), h' = (sh, J, M, R) ∧ (∀ j, j < 11 → M 239 (wvx.getD j 0) = ask v k j) ∧ J 237 4 = sw v k ∧ (∀ p q, p ≠ 237 ∨ q ≠ 4 → J p q = I p q) ∧ ∀ p q, p ≠ 239 → M p q = L p q) := by
    intro M m1x m2x
    refine e_aload rfl rfl ?_
    refine e_getR rfl hC.1 hC.2.2.2.2.2.1 ?_
    refine e_ipush rfl ?_
    refine e_iload rfl rfl ?_
    refine e_i2l rfl ?_
    refine e_lasJ (t := 13) (n := 22) rfl hC.2.2.1 rfl (by decide) (by decide) (fun M1x gm1x fm1x => ?_)
    exact s2x M1x (wr_w m1x (by decide) (t := 13) rfl (gm1x.trans (show _ = ask v k 1 from congrArg Int32.toInt64 e13x.symm)) fm1x) (fun p q r => (fm1x p q (Or.inl r)).trans (m2x p q r))
  have s0x : ∀ M : Nat → Nat → Int64, (∀ j, j < 0 → M 239 (wvx.getD j 0) = ask v k j) → (∀ p q, p ≠ 239 → M p q = L p q) → Eg X xTc 4 3 31 [(0, .ref 237), (1, .ref m), (2, .int (nI k)), (3, .ref s), (4, .int (nI (sc v k))), (5, .int (nI (cn v 7) + 1))] [] (sh, J1x, M, R) (fun r h' => r = none ∧ ∃ (J : Nat → Nat → Int32) (M : Nat → Nat → Int64), h' = (sh, J, M, R) ∧ (∀ j, j < 11 → M 239 (wvx.getD j 0) = ask v k j) ∧ J 237 4 = sw v k ∧ (∀ p q, p ≠ 237 ∨ q ≠ 4 → J p q = I p q) ∧ ∀ p q, p ≠ 239 → M p q = L p q) := by
    intro M m1x m2x
    refine e_aload rfl rfl ?_
    refine e_getR rfl hC.1 hC.2.2.2.2.2.1 ?_
    refine e_ipush rfl ?_
    refine e_iload rfl rfl ?_
    refine e_i2l rfl ?_
    refine e_lasJ (t := 5) (n := 22) rfl hC.2.2.1 rfl (by decide) (by decide) (fun M1x gm1x fm1x => ?_)
    exact s1x M1x (wr_w m1x (by decide) (t := 5) rfl (gm1x.trans rfl) fm1x) (fun p q r => (fm1x p q (Or.inl r)).trans (m2x p q r))
  exact s0x L (fun j q => absurd q (Nat.not_lt_zero _)) (fun _ _ _ => rfl)
end EY
