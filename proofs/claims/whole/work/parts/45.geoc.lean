/-! HEIGHTS, the one side -/
section GC
variable {X : xX} {h : xH} {sh : List (Nat × Nat)} {I : Nat → Nat → Int32} {L : Nat → Nat → Int64} {R : Nat → Nat → Option Nat} {v : Nat → Nat → Int32} {s m : Nat}
theorem wv_eq {P P' W W' : Nat → Int32} {t p : Nat} {lg sf c d : Int32} (hP : P t = P' t) (hp : P' t = nI p) (hp0 : 0 < p) (hp1 : p ≤ 20) (h : ∀ k, nI k < P' t → k < 20 → W (20 * t + k) = W' (20 * t + k)) : wv P W t lg sf c d = wv P' W' t lg sf c d := by
  obtain ⟨k, hk, ek⟩ := rst_nI (d + sf - lg * c) hp0 (n := p) (by omega)
  unfold wv
  rw [hP, hp, ek, nI_clamp (by omega)]
  exact h k (by rw [hp]; exact nI_lt hk (by omega)) (by omega)
theorem cs_waveV (hS : SeaAt sh R s) (hV : SeaV I s v) (hw : Wf v) {t : Nat} {lg sf c d : Int32} (ht : t < cn v 1) : Ec X 1 91 [.ref s, .int (nI t), .int lg, .int sf, .int c, .int d] (sh, I, L, R) (fun r h' => r = some (.int (wv (v 5) (v 6) t lg sf c d)) ∧ h' = (sh, I, L, R)) := by
  have h3 := hw.1.2.2.1
  obtain ⟨p, l', s', ep, p2, p20, -⟩ := hw.2.1 t ht
  obtain ⟨e1, e2, e3, e4⟩ := hV.2.2.2.2.1 t ht
  rw [← wv_eq (P := I (s + 3)) (W := I (s + 5)) e3 ep (by omega) p20 e4]
  exact cs_waveBy hS (by omega) (e3.trans ep) (by omega) p20
theorem cs_wave (hS : SeaAt sh R s) (hV : SeaV I s v) (hw : Wf v) {t : Nat} {c d : Int32} (ht : t < cn v 1) : Ec X 2 92 [.ref s, .int (nI t), .int c, .int d] (sh, I, L, R) (fun r h' => r = some (.int (wvv v t c d)) ∧ h' = (sh, I, L, R)) := by
  have hb := hw.1.2
  refine Ec.of (Nat.le_of_ble_eq_true rfl) ?_
  refine e_aload rfl rfl ?_
  refine e_iload rfl rfl ?_
  refine e_aload rfl rfl ?_
  refine e_getR rfl hS.1 (hS.2 0 _ rfl).2 ?_
  refine e_iload rfl rfl ?_
  refine e_ialv (t := t) (n := 3) rfl (hS.2 0 _ rfl).1 rfl (by omega) (by decide) (hV.2.2.2.2.1 t (by omega)).1 ?_
  refine e_aload rfl rfl ?_
  refine e_getR rfl hS.1 (hS.2 1 _ rfl).2 ?_
  refine e_iload rfl rfl ?_
  refine e_ialv (t := t) (n := 3) rfl (hS.2 1 _ rfl).1 rfl (by omega) (by decide) (hV.2.2.2.2.1 t (by omega)).2.1 ?_
  refine e_iload rfl rfl ?_
  refine e_iload rfl rfl ?_
  refine Eg.p6 rfl (by decide) (by decide) rfl (Nat.le_of_ble_eq_true rfl) (xrcv_of rfl hS.1 rfl) ((cs_waveV hS hV hw (t := t) (by omega)).mono (by decide)) ?_
  exact Eg.ret rfl (by decide) rfl ⟨rfl, rfl⟩
theorem cs_sand (hS : SeaAt sh R s) (hV : SeaV I s v) (hw : Wf v) {c : Nat} {d : Int32} (hc : c < 12) : Ec X 2 93 [.ref s, .int (nI c), .int d] (sh, I, L, R) (fun r h' => r = some (.int (sandF v c d)) ∧ h' = (sh, I, L, R)) := by
  have hb := hw.1.2
  refine Ec.of (Nat.le_of_ble_eq_true rfl) ?_
  refine e_aload rfl rfl ?_
  refine e_getR rfl hS.1 (hS.2 5 _ rfl).2 ?_
  refine e_iload rfl rfl ?_
  refine e_ialv (t := c) (n := 12) rfl (hS.2 5 _ rfl).1 rfl (by omega) (by decide) (hV.2.2.2.1 c (by omega)) ?_
  refine e_istore rfl ?_
  refine e_ipush rfl ?_
  refine e_istore rfl ?_
  refine Eg.pk [0, 1, 2, 3, 4] [4, 3, 0, 1, 2] rfl (by decide) ?_
  refine up_ind (p := fun j => Eg X xTc _ 93 10 [(0, .ref s), (1, .int (nI c)), (2, .int d), (3, .int (itN (fun t z => z + wvv v t (nI c) d) (v 2 c) j)), (4, .int (nI j))] [] (sh, I, L, R) _) (n := cn v 1) (j := 0) (fun j hj ih => ?_) ?_ (Nat.zero_le _)
  · refine e_iload rfl rfl ?_
    refine e_aload rfl rfl ?_
    refine e_getIv rfl hS.1 (hV.1 1 (by decide)) ?_
    refine e_cge_f rfl (nI_ge hj (by omega)) ?_
    refine e_iload rfl rfl ?_
    refine e_aload rfl rfl ?_
    refine e_iload rfl rfl ?_
    refine e_aload rfl rfl ?_
    refine e_getR rfl hS.1 (hS.2 0 _ rfl).2 ?_
    refine e_iload rfl rfl ?_
    refine e_ialv (t := j) (n := 3) rfl (hS.2 0 _ rfl).1 rfl (by omega) (by decide) (hV.2.2.2.2.1 j (by omega)).1 ?_
    refine e_aload rfl rfl ?_
    refine e_getR rfl hS.1 (hS.2 1 _ rfl).2 ?_
    refine e_iload rfl rfl ?_
    refine e_ialv (t := j) (n := 3) rfl (hS.2 1 _ rfl).1 rfl (by omega) (by decide) (hV.2.2.2.2.1 j (by omega)).2.1 ?_
    refine e_iload rfl rfl ?_
    refine e_iload rfl rfl ?_
    refine Eg.p6 rfl (by decide) (by decide) rfl (Nat.le_of_ble_eq_true rfl) (xrcv_of rfl hS.1 rfl) ((cs_waveV hS hV hw (t := j) (by omega)).mono (by decide)) ?_
    refine e_iadd rfl ?_
    refine e_istore rfl ?_
    refine e_iinc rfl rfl ?_
    refine e_goto rfl ?_
    refine Eg.pk [0, 1, 2, 3, 4] [4, 3, 0, 1, 2] rfl (by decide) ?_
    rw [nI_1]
    exact ih
  · refine e_iload rfl rfl ?_
    refine e_aload rfl rfl ?_
    refine e_getIv rfl hS.1 (hV.1 1 (by decide)) ?_
    refine e_cge_t rfl (Int32.le_refl _) ?_
    refine e_iload rfl rfl ?_
    exact Eg.ret rfl (by decide) rfl ⟨rfl, rfl⟩
theorem cs_drift {F c : Nat} (hF : F < 4096) (hc : c < 32) : Ec X 1 94 [.int (nI F), .int (nI c)] h (fun r h' => r = some (.int (drf F c)) ∧ h' = h) := by
  refine Ec.of (Nat.le_of_ble_eq_true rfl) ?_
  refine e_iload rfl rfl ?_
  refine e_ipush rfl ?_
  refine e_ishl rfl ?_
  refine e_iload rfl rfl ?_
  refine e_ishr rfl ?_
  refine e_ipush rfl ?_
  refine e_iand rfl ?_
  refine e_istore rfl ?_
  refine e_iload rfl rfl ?_
  refine e_iload rfl rfl ?_
  refine e_ishr rfl ?_
  refine e_ipush rfl ?_
  refine e_iand rfl ?_
  refine e_istore rfl ?_
  refine e_ipush rfl ?_
  refine e_iload rfl rfl ?_
  refine e_iload rfl rfl ?_
  refine e_isub rfl ?_
  refine e_imul rfl ?_
  exact Eg.ret rfl (by decide) rfl ⟨by rw [drift_eq hF hc], rfl⟩
theorem cs_levelBy (hS : SeaAt sh R s) (hV : SeaV I s v) (hw : Wf v) {F c : Nat} {d : Int32} (hF : F < 4096) (hc : c < 12) : Ec X 3 95 [.ref s, .int (nI F), .int (nI c), .int d] (sh, I, L, R) (fun r h' => r = some (.int (lvF v F c d)) ∧ h' = (sh, I, L, R)) := by
  have hb := hw.1.2
  refine Ec.of (Nat.le_of_ble_eq_true rfl) ?_
  refine e_ipush rfl ?_
  refine e_aload rfl rfl ?_
  refine e_iload rfl rfl ?_
  refine e_iload rfl rfl ?_
  refine Eg.p3 rfl (by decide) (by decide) rfl (Nat.le_of_ble_eq_true rfl) (xrcv_of rfl hS.1 rfl) ((cs_sand hS hV hw (c := c) (by omega)).mono (by decide)) ?_
  refine e_iload rfl rfl ?_
  refine e_iload rfl rfl ?_
  refine Eg.p2 rfl (by decide) (by decide) rfl (Nat.le_of_ble_eq_true rfl) (xrcv_ofs (Or.inl rfl)) ((cs_drift (F := F) (c := c) (by omega) (by omega)).mono (by decide)) ?_
  refine e_iadd rfl ?_
  refine e_max rfl (Nat.le_of_ble_eq_true rfl) ?_
  exact Eg.ret rfl (by decide) rfl ⟨rfl, rfl⟩
theorem cs_isOpenBy (hS : SeaAt sh R s) (hV : SeaV I s v) (hw : Wf v) {F p : Nat} {d : Int32} (hF : F < 4096) (hp : isP v p) : Ec X 4 96 [.ref s, .int (nI F), .int (nI p), .int d] (sh, I, L, R) (fun r h' => r = some (.int (yn (lvF v F (pcl v p) d ≤ plm v p))) ∧ h' = (sh, I, L, R)) := by
  have hb := hw.1.2
  have hp8 := hp.lt hw
  have hpc := (hp.v hw).2.1
  refine Ec.of (Nat.le_of_ble_eq_true rfl) ?_
  refine e_aload rfl rfl ?_
  refine e_iload rfl rfl ?_
  refine e_aload rfl rfl ?_
  refine e_getR rfl hS.1 (hS.2 6 _ rfl).2 ?_
  refine e_iload rfl rfl ?_
  refine e_ialv (t := p) (n := 8) rfl (hS.2 6 _ rfl).1 rfl (by omega) (by decide) (hV.p (p := p) (by assumption) hw).1 ?_
  refine e_iload rfl rfl ?_
  refine Eg.p4 rfl (by decide) (by decide) rfl (Nat.le_of_ble_eq_true rfl) (xrcv_of rfl hS.1 rfl) ((cs_levelBy hS hV hw (F := F) (c := (pcl v p)) (by omega) (by omega)).mono (by decide)) ?_
  refine e_aload rfl rfl ?_
  refine e_getR rfl hS.1 (hS.2 7 _ rfl).2 ?_
  refine e_iload rfl rfl ?_
  refine e_ialv (t := p) (n := 8) rfl (hS.2 7 _ rfl).1 rfl (by omega) (by decide) (hV.p (p := p) (by assumption) hw).2.1 ?_
  refine e_cgt_b rfl (fun b18 => ?_) (fun b18 => ?_)
  · refine e_ipush rfl ?_
    exact Eg.ret rfl (by decide) rfl ⟨congrArg (fun z => some (Value.int z)) (yn_f (Int32.not_le.mpr b18)).symm, rfl⟩
  · refine e_ipush rfl ?_
    refine e_goto rfl ?_
    exact Eg.ret rfl (by decide) rfl ⟨congrArg (fun z => some (Value.int z)) (yn_t (Int32.not_lt.mp b18)).symm, rfl⟩
theorem dgn_eq {I v : Nat → Nat → Int32} {m c : Nat} {d a : Int32} (hW : MomV I m v) {n : Nat} (hn : n ≤ cn v 9) : itN (fun i z => if I (m + 5) i = nI c ∧ I (m + 7) i ≤ d ∧ d ≤ I (m + 8) i then z - I (m + 6) i else z) a (dgn v n) = itN (fun k z => z - dgt v (nI c) d k) a n := by
  induction n with
  | zero => rfl
  | succ n ih =>
    have ih := ih (by omega)
    show itN _ a (if v 1 7 ≤ v 23 n then dgn v n + 1 else dgn v n) = itN _ a n - dgt v (nI c) d n
    by_cases hl : v 1 7 ≤ v 23 n
    · obtain ⟨e1, e2, e3, e4⟩ := hW.2.2.2.2 n (by omega) hl
      rw [if_pos hl]
      show (if I (m + 5) (dgn v n) = nI c ∧ I (m + 7) (dgn v n) ≤ d ∧ d ≤ I (m + 8) (dgn v n) then itN _ a (dgn v n) - I (m + 6) (dgn v n) else itN _ a (dgn v n)) = _
      rw [ih, e1, e2, e3, e4]
      unfold dgt
      by_cases hc : v 20 n = nI c ∧ v 22 n ≤ d ∧ d ≤ v 23 n
      · rw [if_pos hc, if_pos ⟨hc.1, hc.2.1, hc.2.2, hl⟩]
      · rw [if_neg hc, if_neg (fun q => hc ⟨q.1, q.2.1, q.2.2.1⟩), Int32.sub_zero]
    · rw [if_neg hl, ih]
      unfold dgt
      rw [if_neg (fun q => hl q.2.2.2), Int32.sub_zero]
theorem dgn_le {v : Nat → Nat → Int32} {n : Nat} : dgn v n ≤ n := by
  induction n with
  | zero => exact Nat.le_refl _
  | succ n ih =>
    show (if v 1 7 ≤ v 23 n then dgn v n + 1 else dgn v n) ≤ n + 1
    split <;> omega
theorem cs_level (hS : SeaAt sh R s) (hV : SeaV I s v) (hw : Wf v) (hM : MomAt sh R m) (hms : R m 0 = some s) (hW : MomV I m v) {c : Nat} {d : Int32} (hc : c < 12) : Ec X 3 39 [.ref m, .int (nI c), .int d] (sh, I, L, R) (fun r h' => r = some (.int (lv v c d)) ∧ h' = (sh, I, L, R)) := by
  have hb := hw.1.2
  have hd := dgn_le (v := v) (n := cn v 9)
  unfold lv
  rw [← dgn_eq hW (Nat.le_refl _)]
  refine Ec.of (Nat.le_of_ble_eq_true rfl) ?_
  refine e_aload rfl rfl ?_
  refine e_getR rfl hM.1 hms ?_
  refine e_iload rfl rfl ?_
  refine e_iload rfl rfl ?_
  refine Eg.p3 rfl (by decide) (by decide) rfl (Nat.le_of_ble_eq_true rfl) (xrcv_of rfl hS.1 rfl) ((cs_sand hS hV hw (c := c) (by omega)).mono (by decide)) ?_
  refine e_aload rfl rfl ?_
  refine e_getIv rfl hM.1 hW.2.1 ?_
  refine e_iload rfl rfl ?_
  refine Eg.p2 rfl (by decide) (by decide) rfl (Nat.le_of_ble_eq_true rfl) (xrcv_ofs (Or.inl rfl)) ((cs_drift (F := (cn v 8)) (c := c) (by omega) (by omega)).mono (by decide)) ?_
  refine e_iadd rfl ?_
  refine e_istore rfl ?_
  refine e_ipush rfl ?_
  refine e_istore rfl ?_
  refine Eg.pk [0, 1, 2, 3, 4] [4, 3, 0, 1, 2] rfl (by decide) ?_
  refine up_ind (p := fun j => Eg X xTc _ 39 22 [(0, .ref m), (1, .int (nI c)), (2, .int d), (3, .int (itN (fun i z => if I (m + 5) i = nI c ∧ I (m + 7) i ≤ d ∧ d ≤ I (m + 8) i then z - I (m + 6) i else z) (sandF v c d + drf (cn v 8) c) j)), (4, .int (nI j))] [] (sh, I, L, R) _) (n := dgn v (cn v 9)) (j := 0) (fun j hj ih => ?_) ?_ (Nat.zero_le _)
  · refine e_iload rfl rfl ?_
    refine e_aload rfl rfl ?_
    refine e_getIv rfl hM.1 hW.2.2.2.1 ?_
    refine e_cge_f rfl (nI_ge hj (by omega)) ?_
    refine e_aload rfl rfl ?_
    refine e_getR rfl hM.1 (hM.2 4 _ rfl).2 ?_
    refine e_iload rfl rfl ?_
    refine e_ialn (t := j) (n := 8) rfl (hM.2 4 _ rfl).1 rfl (by omega) (by decide) ?_
    refine e_iload rfl rfl ?_
    refine e_cne_b rfl (fun b39 => ?_) (fun b39 => ?_)
    · refine e_iinc rfl rfl ?_
      refine e_goto rfl ?_
      refine Eg.pk [0, 1, 2, 3, 4] [4, 0, 1, 2, 3] rfl (by decide) ?_
      have e : itN (fun i z => if I (m + 5) i = nI c ∧ I (m + 7) i ≤ d ∧ d ≤ I (m + 8) i then z - I (m + 6) i else z) (sandF v c d + drf (cn v 8) c) (j + 1) = _ := if_neg (fun q => b39 q.1)
      rw [nI_1]
      rw [e] at ih
      exact ih
    · refine e_aload rfl rfl ?_
      refine e_getR rfl hM.1 (hM.2 6 _ rfl).2 ?_
      refine e_iload rfl rfl ?_
      refine e_ialn (t := j) (n := 8) rfl (hM.2 6 _ rfl).1 rfl (by omega) (by decide) ?_
      refine e_iload rfl rfl ?_
      refine e_cgt_b rfl (fun b50 => ?_) (fun b50 => ?_)
      · refine e_iinc rfl rfl ?_
        refine e_goto rfl ?_
        refine Eg.pk [0, 1, 2, 3, 4] [4, 0, 1, 2, 3] rfl (by decide) ?_
        have e : itN (fun i z => if I (m + 5) i = nI c ∧ I (m + 7) i ≤ d ∧ d ≤ I (m + 8) i then z - I (m + 6) i else z) (sandF v c d + drf (cn v 8) c) (j + 1) = _ := if_neg (fun q => Int32.not_lt.mpr q.2.1 b50)
        rw [nI_1]
        rw [e] at ih
        exact ih
      · refine e_iload rfl rfl ?_
        refine e_aload rfl rfl ?_
        refine e_getR rfl hM.1 (hM.2 7 _ rfl).2 ?_
        refine e_iload rfl rfl ?_
        refine e_ialn (t := j) (n := 8) rfl (hM.2 7 _ rfl).1 rfl (by omega) (by decide) ?_
        refine e_cgt_b rfl (fun b61 => ?_) (fun b61 => ?_)
        · refine e_iinc rfl rfl ?_
          refine e_goto rfl ?_
          refine Eg.pk [0, 1, 2, 3, 4] [4, 0, 1, 2, 3] rfl (by decide) ?_
          have e : itN (fun i z => if I (m + 5) i = nI c ∧ I (m + 7) i ≤ d ∧ d ≤ I (m + 8) i then z - I (m + 6) i else z) (sandF v c d + drf (cn v 8) c) (j + 1) = _ := if_neg (fun q => Int32.not_lt.mpr q.2.2 b61)
          rw [nI_1]
          rw [e] at ih
          exact ih
        · refine e_iload rfl rfl ?_
          refine e_aload rfl rfl ?_
          refine e_getR rfl hM.1 (hM.2 5 _ rfl).2 ?_
          refine e_iload rfl rfl ?_
          refine e_ialn (t := j) (n := 8) rfl (hM.2 5 _ rfl).1 rfl (by omega) (by decide) ?_
          refine e_isub rfl ?_
          refine e_istore rfl ?_
          refine e_iinc rfl rfl ?_
          refine e_goto rfl ?_
          refine Eg.pk [0, 1, 2, 3, 4] [4, 3, 0, 1, 2] rfl (by decide) ?_
          have e : itN (fun i z => if I (m + 5) i = nI c ∧ I (m + 7) i ≤ d ∧ d ≤ I (m + 8) i then z - I (m + 6) i else z) (sandF v c d + drf (cn v 8) c) (j + 1) = _ := if_pos ⟨b39, Int32.not_lt.mp b50, Int32.not_lt.mp b61⟩
          rw [nI_1]
          rw [e] at ih
          exact ih
  · refine e_iload rfl rfl ?_
    refine e_aload rfl rfl ?_
    refine e_getIv rfl hM.1 hW.2.2.2.1 ?_
    refine e_cge_t rfl (Int32.le_refl _) ?_
    refine e_ipush rfl ?_
    refine e_iload rfl rfl ?_
    refine e_max rfl (Nat.le_of_ble_eq_true rfl) ?_
    exact Eg.ret rfl (by decide) rfl ⟨rfl, rfl⟩
theorem cs_isOpen (hS : SeaAt sh R s) (hV : SeaV I s v) (hw : Wf v) (hM : MomAt sh R m) (hms : R m 0 = some s) (hW : MomV I m v) {p : Nat} {d : Int32} (hp : isP v p) : Ec X 4 40 [.ref m, .int (nI p), .int d] (sh, I, L, R) (fun r h' => r = some (.int (yn (lv v (pcl v p) d ≤ plm v p))) ∧ h' = (sh, I, L, R)) := by
  have hb := hw.1.2
  have hp8 := hp.lt hw
  have hpc := (hp.v hw).2.1
  refine Ec.of (Nat.le_of_ble_eq_true rfl) ?_
  refine e_aload rfl rfl ?_
  refine e_aload rfl rfl ?_
  refine e_getR rfl hM.1 hms ?_
  refine e_getR rfl hS.1 (hS.2 6 _ rfl).2 ?_
  refine e_iload rfl rfl ?_
  refine e_ialv (t := p) (n := 8) rfl (hS.2 6 _ rfl).1 rfl (by omega) (by decide) (hV.p (p := p) (by assumption) hw).1 ?_
  refine e_iload rfl rfl ?_
  refine Eg.p3 rfl (by decide) (by decide) rfl (Nat.le_of_ble_eq_true rfl) (xrcv_of rfl hM.1 rfl) ((cs_level hS hV hw hM hms hW (c := (pcl v p)) (by omega)).mono (by decide)) ?_
  refine e_aload rfl rfl ?_
  refine e_getR rfl hM.1 hms ?_
  refine e_getR rfl hS.1 (hS.2 7 _ rfl).2 ?_
  refine e_iload rfl rfl ?_
  refine e_ialv (t := p) (n := 8) rfl (hS.2 7 _ rfl).1 rfl (by omega) (by decide) (hV.p (p := p) (by assumption) hw).2.1 ?_
  refine e_cgt_b rfl (fun b23 => ?_) (fun b23 => ?_)
  · refine e_ipush rfl ?_
    exact Eg.ret rfl (by decide) rfl ⟨congrArg (fun z => some (Value.int z)) (yn_f (Int32.not_le.mpr b23)).symm, rfl⟩
  · refine e_ipush rfl ?_
    refine e_goto rfl ?_
    exact Eg.ret rfl (by decide) rfl ⟨congrArg (fun z => some (Value.int z)) (yn_t (Int32.not_lt.mp b23)).symm, rfl⟩
theorem cs_wellOf (hS : SeaAt sh R s) (hV : SeaV I s v) (hw : Wf v) (hM : MomAt sh R m) (hms : R m 0 = some s) (hW : MomV I m v) {c : Nat} (hc : c < 12) : Ec X 4 41 [.ref m, .int (nI c)] (sh, I, L, R) (fun r h' => r = some (.int (wlo v c (nI (cn v 7)))) ∧ h' = (sh, I, L, R)) := by
  have hb := hw.1.2
  unfold wlo
  refine Ec.of (Nat.le_of_ble_eq_true rfl) ?_
  refine e_ipush rfl ?_
  refine e_istore rfl ?_
  refine e_aload rfl rfl ?_
  refine e_iload rfl rfl ?_
  refine e_aload rfl rfl ?_
  refine e_getIv rfl hM.1 hW.1 ?_
  refine Eg.p3 rfl (by decide) (by decide) rfl (Nat.le_of_ble_eq_true rfl) (xrcv_of rfl hM.1 rfl) ((cs_level hS hV hw hM hms hW (c := c) (by omega)).mono (by decide)) ?_
  refine e_istore rfl ?_
  refine e_ipush rfl ?_
  refine e_istore rfl ?_
  refine Eg.pk [0, 1, 2, 3, 4] [4, 3, 2, 0, 1] rfl (by decide) ?_
  refine up_ind (p := fun j => Eg X xTc _ 41 15 [(0, .ref m), (1, .int (nI c)), (2, .int (itN (wlS v c (lv v c (nI (cn v 7)))) (-1) j)), (3, .int (lv v c (nI (cn v 7)))), (4, .int (nI j))] [] (sh, I, L, R) _) (n := cn v 2) (j := 0) (fun j hj ih => ?_) ?_ (Nat.zero_le _)
  · refine e_iload rfl rfl ?_
    refine e_aload rfl rfl ?_
    refine e_getR rfl hM.1 hms ?_
    refine e_getIv rfl hS.1 (hV.1 2 (by decide)) ?_
    refine e_cge_f rfl (nI_ge hj (by omega)) ?_
    have hp : isP v j := Or.inl ⟨by omega, by omega⟩
    refine e_aload rfl rfl ?_
    refine e_getR rfl hM.1 hms ?_
    refine e_getR rfl hS.1 (hS.2 6 _ rfl).2 ?_
    refine e_iload rfl rfl ?_
    refine e_ialv (t := j) (n := 8) rfl (hS.2 6 _ rfl).1 rfl (by omega) (by decide) (hV.p (p := j) (by assumption) hw).1 ?_
    refine e_iload rfl rfl ?_
    refine e_cne_b rfl (fun b38 => ?_) (fun b38 => ?_)
    · refine e_ipush rfl ?_
      refine e_istore rfl ?_
      refine e_iload rfl rfl ?_
      refine e_ifeq_t rfl rfl ?_
      refine e_iinc rfl rfl ?_
      refine e_goto rfl ?_
      refine Eg.pk [0, 1, 2, 3, 4] [4, 5, 0, 1, 2, 3] rfl (by decide) ?_
      have e : itN (wlS v c (lv v c (nI (cn v 7)))) (-1) (j + 1) = _ := if_neg (fun q => b38 q.1)
      rw [nI_1]
      rw [e] at ih
      exact ih
    · refine e_iload rfl rfl ?_
      refine e_aload rfl rfl ?_
      refine e_getR rfl hM.1 hms ?_
      refine e_getR rfl hS.1 (hS.2 7 _ rfl).2 ?_
      refine e_iload rfl rfl ?_
      refine e_ialv (t := j) (n := 8) rfl (hS.2 7 _ rfl).1 rfl (by omega) (by decide) (hV.p (p := j) (by assumption) hw).2.1 ?_
      refine e_cgt_b rfl (fun b52 => ?_) (fun b52 => ?_)
      · refine e_ipush rfl ?_
        refine e_istore rfl ?_
        refine e_iload rfl rfl ?_
        refine e_ifeq_t rfl rfl ?_
        refine e_iinc rfl rfl ?_
        refine e_goto rfl ?_
        refine Eg.pk [0, 1, 2, 3, 4] [4, 5, 0, 1, 2, 3] rfl (by decide) ?_
        have e : itN (wlS v c (lv v c (nI (cn v 7)))) (-1) (j + 1) = _ := if_neg (fun q => Int32.not_lt.mpr q.2.1 b52)
        rw [nI_1]
        rw [e] at ih
        exact ih
      · refine e_ipush rfl ?_
        refine e_goto rfl ?_
        refine e_istore rfl ?_
        refine e_iload rfl rfl ?_
        refine e_ifeq_f rfl (by decide) ?_
        refine e_iload rfl rfl ?_
        refine e_ipush rfl ?_
        refine e_ceq_b rfl (fun b69 => ?_) (fun b69 => ?_)
        · refine e_iload rfl rfl ?_
          refine e_istore rfl ?_
          refine e_iinc rfl rfl ?_
          refine e_goto rfl ?_
          refine Eg.pk [0, 1, 2, 3, 4] [4, 2, 5, 0, 1, 3] rfl (by decide) ?_
          have e : itN (wlS v c (lv v c (nI (cn v 7)))) (-1) (j + 1) = _ := if_pos ⟨b38, Int32.not_lt.mp b52, Or.inl b69⟩
          rw [nI_1]
          rw [e] at ih
          exact ih
        · obtain e | ⟨b, hbb, eb⟩ := wlo_bd (v := v) (c := c) (n := j) (h := lv v c (nI (cn v 7)))
          · exact absurd e b69
          have hq : isP v b := Or.inl ⟨by omega, by omega⟩
          refine e_aload rfl rfl ?_
          refine e_getR rfl hM.1 hms ?_
          refine e_getR rfl hS.1 (hS.2 8 _ rfl).2 ?_
          refine e_iload rfl rfl ?_
          refine e_ialv (t := j) (n := 8) rfl (hS.2 8 _ rfl).1 rfl (by omega) (by decide) (hV.p (p := j) (by assumption) hw).2.2 ?_
          refine e_aload rfl rfl ?_
          refine e_getR rfl hM.1 hms ?_
          refine e_getR rfl hS.1 (hS.2 8 _ rfl).2 ?_
          refine e_iload rfl rfl ?_
          refine e_ialv (t := b) (n := 8) rfl (hS.2 8 _ rfl).1 eb (by omega) (by decide) (hV.p (p := b) (by assumption) hw).2.2 ?_
          refine e_cge_b rfl (fun b91 => ?_) (fun b91 => ?_)
          · refine e_iinc rfl rfl ?_
            refine e_goto rfl ?_
            refine Eg.pk [0, 1, 2, 3, 4] [4, 5, 0, 1, 2, 3] rfl (by decide) ?_
            have e : itN (wlS v c (lv v c (nI (cn v 7)))) (-1) (j + 1) = _ := if_neg (fun q => q.2.2.elim b69 (fun r => by rw [eb, nI_clamp (by omega)] at r; exact Int32.not_le.mpr r b91))
            rw [nI_1]
            rw [e] at ih
            exact ih
          · refine e_iload rfl rfl ?_
            refine e_istore rfl ?_
            refine e_iinc rfl rfl ?_
            refine e_goto rfl ?_
            refine Eg.pk [0, 1, 2, 3, 4] [4, 2, 5, 0, 1, 3] rfl (by decide) ?_
            have e : itN (wlS v c (lv v c (nI (cn v 7)))) (-1) (j + 1) = _ := if_pos ⟨b38, Int32.not_lt.mp b52, Or.inr (by rw [eb, nI_clamp (by omega)]; exact Int32.not_le.mp b91)⟩
            rw [nI_1]
            rw [e] at ih
            exact ih
  · refine e_iload rfl rfl ?_
    refine e_aload rfl rfl ?_
    refine e_getR rfl hM.1 hms ?_
    refine e_getIv rfl hS.1 (hV.1 2 (by decide)) ?_
    refine e_cge_t rfl (Int32.le_refl _) ?_
    refine e_iload rfl rfl ?_
    exact Eg.ret rfl (by decide) rfl ⟨rfl, rfl⟩
theorem cs_isDry (hS : SeaAt sh R s) (hV : SeaV I s v) (hw : Wf v) (hM : MomAt sh R m) (hms : R m 0 = some s) (hW : MomV I m v) {k : Nat} (hk : k < cn v 4) : Ec X 1 42 [.ref m, .int (nI k)] (sh, I, L, R) (fun r h' => r = some (.int (yn (¬ v 18 k = -1))) ∧ h' = (sh, I, L, R)) := by
  have hb := hw.1.2
  refine Ec.of (Nat.le_of_ble_eq_true rfl) ?_
  refine e_aload rfl rfl ?_
  refine e_getR rfl hM.1 (hM.2 3 _ rfl).2 ?_
  refine e_iload rfl rfl ?_
  refine e_ialv (t := k) (n := 4) rfl (hM.2 3 _ rfl).1 rfl (by omega) (by decide) (hW.2.2.1 k (by omega)).2.2.2 ?_
  refine e_ipush rfl ?_
  refine e_ceq_b rfl (fun b7 => ?_) (fun b7 => ?_)
  · refine e_ipush rfl ?_
    exact Eg.ret rfl (by decide) rfl ⟨congrArg (fun z => some (Value.int z)) (yn_f (fun q => q b7)).symm, rfl⟩
  · refine e_ipush rfl ?_
    refine e_goto rfl ?_
    exact Eg.ret rfl (by decide) rfl ⟨congrArg (fun z => some (Value.int z)) (yn_t b7).symm, rfl⟩
def dryN (v : Nat → Nat → Int32) : Int32 := itN (fun k z => z + yn (¬ v 18 k = -1)) 0 (cn v 4)
def paidN (v : Nat → Nat → Int32) : Int32 := itN (fun k z => z + v 17 k) 0 (cn v 4)
theorem cs_dryShips (hS : SeaAt sh R s) (hV : SeaV I s v) (hw : Wf v) (hM : MomAt sh R m) (hms : R m 0 = some s) (hW : MomV I m v) : Ec X 2 43 [.ref m] (sh, I, L, R) (fun r h' => r = some (.int (dryN v)) ∧ h' = (sh, I, L, R)) := by
  have hb := hw.1.2
  refine Ec.of (Nat.le_of_ble_eq_true rfl) ?_
  refine e_ipush rfl ?_
  refine e_istore rfl ?_
  refine e_ipush rfl ?_
  refine e_istore rfl ?_
  refine Eg.pk [0, 1, 2] [2, 1, 0] rfl (by decide) ?_
  refine up_ind (p := fun j => Eg X xTc _ 43 4 [(0, .ref m), (1, .int (itN (fun k z => z + yn (¬ v 18 k = -1)) 0 j)), (2, .int (nI j))] [] (sh, I, L, R) _) (n := cn v 4) (j := 0) (fun j hj ih => ?_) ?_ (Nat.zero_le _)
  · refine e_iload rfl rfl ?_
    refine e_aload rfl rfl ?_
    refine e_getR rfl hM.1 hms ?_
    refine e_getIv rfl hS.1 (hV.1 4 (by decide)) ?_
    refine e_cge_f rfl (nI_ge hj (by omega)) ?_
    refine e_iload rfl rfl ?_
    refine e_aload rfl rfl ?_
    refine e_iload rfl rfl ?_
    refine Eg.p2 rfl (by decide) (by decide) rfl (Nat.le_of_ble_eq_true rfl) (xrcv_of rfl hM.1 rfl) ((cs_isDry hS hV hw hM hms hW (k := j) (by omega)).mono (by decide)) ?_
    refine e_ifeq_b rfl (fun b21 => ?_) (fun b21 => ?_)
    · refine e_ipush rfl ?_
      refine e_iadd rfl ?_
      refine e_istore rfl ?_
      refine e_iinc rfl rfl ?_
      refine e_goto rfl ?_
      refine Eg.pk [0, 1, 2] [2, 1, 0] rfl (by decide) ?_
      rw [show (itN (fun k z => z + yn (¬ v 18 k = -1)) 0 j + 0) = itN (fun k z => z + yn (¬ v 18 k = -1)) 0 (j + 1) from congrArg (fun q => itN (fun k z => z + yn (¬ v 18 k = -1)) 0 j + q) b21.symm]
      rw [nI_1]
      exact ih
    · refine e_ipush rfl ?_
      refine e_goto rfl ?_
      refine e_iadd rfl ?_
      refine e_istore rfl ?_
      refine e_iinc rfl rfl ?_
      refine e_goto rfl ?_
      refine Eg.pk [0, 1, 2] [2, 1, 0] rfl (by decide) ?_
      rw [show (itN (fun k z => z + yn (¬ v 18 k = -1)) 0 j + 1) = itN (fun k z => z + yn (¬ v 18 k = -1)) 0 (j + 1) from congrArg (fun q => itN (fun k z => z + yn (¬ v 18 k = -1)) 0 j + q) (yn_t (yn_n0.mp b21)).symm]
      rw [nI_1]
      exact ih
  · refine e_iload rfl rfl ?_
    refine e_aload rfl rfl ?_
    refine e_getR rfl hM.1 hms ?_
    refine e_getIv rfl hS.1 (hV.1 4 (by decide)) ?_
    refine e_cge_t rfl (Int32.le_refl _) ?_
    refine e_iload rfl rfl ?_
    exact Eg.ret rfl (by decide) rfl ⟨rfl, rfl⟩
theorem cs_coinsPaid (hS : SeaAt sh R s) (hV : SeaV I s v) (hw : Wf v) (hM : MomAt sh R m) (hms : R m 0 = some s) (hW : MomV I m v) : Ec X 1 44 [.ref m] (sh, I, L, R) (fun r h' => r = some (.int (paidN v)) ∧ h' = (sh, I, L, R)) := by
  have hb := hw.1.2
  refine Ec.of (Nat.le_of_ble_eq_true rfl) ?_
  refine e_ipush rfl ?_
  refine e_istore rfl ?_
  refine e_ipush rfl ?_
  refine e_istore rfl ?_
  refine Eg.pk [0, 1, 2] [2, 1, 0] rfl (by decide) ?_
  refine up_ind (p := fun j => Eg X xTc _ 44 4 [(0, .ref m), (1, .int (itN (fun k z => z + v 17 k) 0 j)), (2, .int (nI j))] [] (sh, I, L, R) _) (n := cn v 4) (j := 0) (fun j hj ih => ?_) ?_ (Nat.zero_le _)
  · refine e_iload rfl rfl ?_
    refine e_aload rfl rfl ?_
    refine e_getR rfl hM.1 hms ?_
    refine e_getIv rfl hS.1 (hV.1 4 (by decide)) ?_
    refine e_cge_f rfl (nI_ge hj (by omega)) ?_
    refine e_iload rfl rfl ?_
    refine e_aload rfl rfl ?_
    refine e_getR rfl hM.1 (hM.2 2 _ rfl).2 ?_
    refine e_iload rfl rfl ?_
    refine e_ialv (t := j) (n := 4) rfl (hM.2 2 _ rfl).1 rfl (by omega) (by decide) (hW.2.2.1 j (by omega)).2.2.1 ?_
    refine e_iadd rfl ?_
    refine e_istore rfl ?_
    refine e_iinc rfl rfl ?_
    refine e_goto rfl ?_
    refine Eg.pk [0, 1, 2] [2, 1, 0] rfl (by decide) ?_
    rw [nI_1]
    exact ih
  · refine e_iload rfl rfl ?_
    refine e_aload rfl rfl ?_
    refine e_getR rfl hM.1 hms ?_
    refine e_getIv rfl hS.1 (hV.1 4 (by decide)) ?_
    refine e_cge_t rfl (Int32.le_refl _) ?_
    refine e_iload rfl rfl ?_
    exact Eg.ret rfl (by decide) rfl ⟨rfl, rfl⟩
theorem ite_yn {p : Prop} [Decidable p] : (if p then (0 : Int32) else 1) = yn (¬ p) := by unfold yn; by_cases h : p <;> simp [h]
theorem cs_hasCellV (hS : SeaAt sh R s) (hV : SeaV I s v) {n : Int32} : Ec X 1 84 [.ref s, .int n] (sh, I, L, R) (fun r h' => r = some (.int (yn (¬ (n < 0 ∨ nI (cn v 0) ≤ n)))) ∧ h' = (sh, I, L, R)) := by
  have h := cs_hasCell (X := X) (L := L) (R := R) (I := I) (n := n) hS.1
  rw [hV.1 0 (by decide), ite_yn] at h
  exact h
theorem cs_hasShipV (hS : SeaAt sh R s) (hV : SeaV I s v) {n : Int32} : Ec X 1 85 [.ref s, .int n] (sh, I, L, R) (fun r h' => r = some (.int (yn (¬ (n < 0 ∨ nI (cn v 4) ≤ n)))) ∧ h' = (sh, I, L, R)) := by
  have h := cs_hasShip (X := X) (L := L) (R := R) (I := I) (n := n) hS.1
  rw [hV.1 4 (by decide), ite_yn] at h
  exact h
theorem nI_le0 {n : Nat} (h : n < 2 ^ 31) : nI n ≤ 0 ↔ n = 0 := by
  constructor
  · intro q
    apply Decidable.byContradiction
    intro hn
    exact nI_nle (by omega) h q
  · intro q; subst q; exact Int32.le_refl _
theorem cs_isThereV (hS : SeaAt sh R s) (hV : SeaV I s v) (hw : Wf v) : Ec X 1 83 [.ref s] (sh, I, L, R) (fun r h' => r = some (.int (yn (¬ cn v 0 = 0))) ∧ h' = (sh, I, L, R)) := by
  have hb := hw.1.2
  have h := cs_isThere (X := X) (L := L) (R := R) (I := I) hS.1
  rw [hV.1 0 (by decide), ite_yn, yn_iff (not_congr (nI_le0 (by omega)))] at h
  exact h
/-- a number within bounds -/
theorem nI_get {x : Int32} {n : Nat} (h : ¬ (x < 0 ∨ nI n ≤ x)) (hn : n < 2 ^ 31) : ∃ t, t < n ∧ x = nI t := by
  obtain ⟨t, ht, e⟩ := nI_of (x := x) (fun q => h (Or.inl q))
  refine ⟨t, ?_, e⟩
  apply Decidable.byContradiction
  intro hc
  exact h (Or.inr (by rw [e]; exact nI_le (by omega) ht))
theorem cs_mayGo (hS : SeaAt sh R s) (hV : SeaV I s v) (hw : Wf v) (hM : MomAt sh R m) (hms : R m 0 = some s) (hW : MomV I m v) {k : Nat} {w : Int32} (hk : k < cn v 4) : Ec X 4 45 [.ref m, .int (nI k), .int w] (sh, I, L, R) (fun r h' => r = some (.int (yn ((w = 1 ∨ w = -1) ∧ canF v k (v 13 k + w) = true))) ∧ h' = (sh, I, L, R)) := by
  have hb := hw.1.2
  obtain ⟨c, wa, tk, cl, ec, hc, ew, hwa, et, ht1, ht2, el, hl⟩ := hw.2.2.2.2 k hk
  refine Ec.of (Nat.le_of_ble_eq_true rfl) ?_
  refine e_aload rfl rfl ?_
  refine e_getR rfl hM.1 (hM.2 0 _ rfl).2 ?_
  refine e_iload rfl rfl ?_
  refine e_ialv (t := k) (n := 4) rfl (hM.2 0 _ rfl).1 rfl (by omega) (by decide) (hW.2.2.1 k (by omega)).1 ?_
  refine e_iload rfl rfl ?_
  refine e_iadd rfl ?_
  refine e_istore rfl ?_
  refine e_aload rfl rfl ?_
  refine e_getR rfl hM.1 (hM.2 1 _ rfl).2 ?_
  refine e_iload rfl rfl ?_
  refine e_ialv (t := k) (n := 4) rfl (hM.2 1 _ rfl).1 rfl (by omega) (by decide) (hW.2.2.1 k (by omega)).2.1 ?_
  refine e_ifle_b rfl (fun b15 => ?_) (fun b15 => ?_)
  · refine e_ipush rfl ?_
    exact Eg.ret rfl (by decide) rfl ⟨congrArg (fun z => some (Value.int z)) (yn_f (fun q => Int32.not_lt.mpr b15 (canF_iff.mp q.2).2.1)).symm, rfl⟩
  · refine e_iload rfl rfl ?_
    refine e_ipush rfl ?_
    refine e_ceq_b rfl (fun b20 => ?_) (fun b20 => ?_)
    · refine e_aload rfl rfl ?_
      refine e_getR rfl hM.1 hms ?_
      refine e_iload rfl rfl ?_
      refine Eg.p2 rfl (by decide) (by decide) rfl (Nat.le_of_ble_eq_true rfl) (xrcv_of rfl hS.1 rfl) ((cs_hasCellV hS hV).mono (by decide)) ?_
      refine e_ifne_b rfl (fun b36 => ?_) (fun b36 => ?_)
      · obtain ⟨t, htt, eto⟩ := nI_get (yn_n0.mp b36) (by omega)
        rw [eto]
        refine e_aload rfl rfl ?_
        refine e_iload rfl rfl ?_
        refine e_aload rfl rfl ?_
        refine e_getIv rfl hM.1 hW.1 ?_
        refine e_ipush rfl ?_
        refine e_iadd rfl ?_
        refine Eg.p3 rfl (by decide) (by decide) rfl (Nat.le_of_ble_eq_true rfl) (xrcv_of rfl hM.1 rfl) ((cs_level hS hV hw hM hms hW (c := t) (by omega)).mono (by decide)) ?_
        refine e_aload rfl rfl ?_
        refine e_aload rfl rfl ?_
        refine e_getR rfl hM.1 (hM.2 0 _ rfl).2 ?_
        refine e_iload rfl rfl ?_
        refine e_ialv (t := k) (n := 4) rfl (hM.2 0 _ rfl).1 rfl (by omega) (by decide) (hW.2.2.1 k (by omega)).1 ?_
        rw [ec]
        refine e_aload rfl rfl ?_
        refine e_getIv rfl hM.1 hW.1 ?_
        refine Eg.p3 rfl (by decide) (by decide) rfl (Nat.le_of_ble_eq_true rfl) (xrcv_of rfl hM.1 rfl) ((cs_level hS hV hw hM hms hW (c := c) (by omega)).mono (by decide)) ?_
        refine e_aload rfl rfl ?_
        refine e_getR rfl hM.1 hms ?_
        refine e_getR rfl hS.1 (hS.2 11 _ rfl).2 ?_
        refine e_iload rfl rfl ?_
        refine e_ialv (t := k) (n := 4) rfl (hS.2 11 _ rfl).1 rfl (by omega) (by decide) (hV.2.2.2.2.2.2.2 k (by omega)).2 ?_
        refine e_iadd rfl ?_
        refine e_cgt_b rfl (fun b76 => ?_) (fun b76 => ?_)
        · refine e_ipush rfl ?_
          exact Eg.ret rfl (by decide) rfl ⟨congrArg (fun z => some (Value.int z)) (yn_f (by rw [canF_iff, ec, nI_clamp (by omega), nI_clamp (by omega)]; exact fun q => Int32.not_lt.mpr q.2.2.2 b76)).symm, rfl⟩
        · refine e_ipush rfl ?_
          refine e_goto rfl ?_
          exact Eg.ret rfl (by decide) rfl ⟨congrArg (fun z => some (Value.int z)) (yn_t (by rw [canF_iff, ec, nI_clamp (by omega), nI_clamp (by omega)]; exact ⟨Or.inl b20, by rw [← eto]; exact yn_n0.mp b36, Int32.not_le.mp b15, Int32.not_lt.mp b76⟩)).symm, rfl⟩
      · refine e_ipush rfl ?_
        exact Eg.ret rfl (by decide) rfl ⟨congrArg (fun z => some (Value.int z)) (yn_f (fun q => (yn_0.mp b36) (canF_iff.mp q.2).1)).symm, rfl⟩
    · refine e_iload rfl rfl ?_
      refine e_ipush rfl ?_
      refine e_cne_b rfl (fun b25 => ?_) (fun b25 => ?_)
      · refine e_ipush rfl ?_
        exact Eg.ret rfl (by decide) rfl ⟨congrArg (fun z => some (Value.int z)) (yn_f (fun q => q.1.elim b20 b25)).symm, rfl⟩
      · refine e_aload rfl rfl ?_
        refine e_getR rfl hM.1 hms ?_
        refine e_iload rfl rfl ?_
        refine Eg.p2 rfl (by decide) (by decide) rfl (Nat.le_of_ble_eq_true rfl) (xrcv_of rfl hS.1 rfl) ((cs_hasCellV hS hV).mono (by decide)) ?_
        refine e_ifne_b rfl (fun b36 => ?_) (fun b36 => ?_)
        · obtain ⟨t, htt, eto⟩ := nI_get (yn_n0.mp b36) (by omega)
          rw [eto]
          refine e_aload rfl rfl ?_
          refine e_iload rfl rfl ?_
          refine e_aload rfl rfl ?_
          refine e_getIv rfl hM.1 hW.1 ?_
          refine e_ipush rfl ?_
          refine e_iadd rfl ?_
          refine Eg.p3 rfl (by decide) (by decide) rfl (Nat.le_of_ble_eq_true rfl) (xrcv_of rfl hM.1 rfl) ((cs_level hS hV hw hM hms hW (c := t) (by omega)).mono (by decide)) ?_
          refine e_aload rfl rfl ?_
          refine e_aload rfl rfl ?_
          refine e_getR rfl hM.1 (hM.2 0 _ rfl).2 ?_
          refine e_iload rfl rfl ?_
          refine e_ialv (t := k) (n := 4) rfl (hM.2 0 _ rfl).1 rfl (by omega) (by decide) (hW.2.2.1 k (by omega)).1 ?_
          rw [ec]
          refine e_aload rfl rfl ?_
          refine e_getIv rfl hM.1 hW.1 ?_
          refine Eg.p3 rfl (by decide) (by decide) rfl (Nat.le_of_ble_eq_true rfl) (xrcv_of rfl hM.1 rfl) ((cs_level hS hV hw hM hms hW (c := c) (by omega)).mono (by decide)) ?_
          refine e_aload rfl rfl ?_
          refine e_getR rfl hM.1 hms ?_
          refine e_getR rfl hS.1 (hS.2 11 _ rfl).2 ?_
          refine e_iload rfl rfl ?_
          refine e_ialv (t := k) (n := 4) rfl (hS.2 11 _ rfl).1 rfl (by omega) (by decide) (hV.2.2.2.2.2.2.2 k (by omega)).2 ?_
          refine e_iadd rfl ?_
          refine e_cgt_b rfl (fun b76 => ?_) (fun b76 => ?_)
          · refine e_ipush rfl ?_
            exact Eg.ret rfl (by decide) rfl ⟨congrArg (fun z => some (Value.int z)) (yn_f (by rw [canF_iff, ec, nI_clamp (by omega), nI_clamp (by omega)]; exact fun q => Int32.not_lt.mpr q.2.2.2 b76)).symm, rfl⟩
          · refine e_ipush rfl ?_
            refine e_goto rfl ?_
            exact Eg.ret rfl (by decide) rfl ⟨congrArg (fun z => some (Value.int z)) (yn_t (by rw [canF_iff, ec, nI_clamp (by omega), nI_clamp (by omega)]; exact ⟨Or.inr b25, by rw [← eto]; exact yn_n0.mp b36, Int32.not_le.mp b15, Int32.not_lt.mp b76⟩)).symm, rfl⟩
        · refine e_ipush rfl ?_
          exact Eg.ret rfl (by decide) rfl ⟨congrArg (fun z => some (Value.int z)) (yn_f (fun q => (yn_0.mp b36) (canF_iff.mp q.2).1)).symm, rfl⟩
end GC
