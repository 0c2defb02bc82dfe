/-! MORE QUESTIONS that change nothing -/
section QV
variable {X : xX} {h : xH} {sh : List (Nat × Nat)} {I : Nat → Nat → Int32} {L : Nat → Nat → Int64} {R : Nat → Nat → Option Nat} {v : Nat → Nat → Int32} {w s m : Nat}
def aTrain (v : Nat → Nat → Int32) (x y : Int32) : Int32 := if ¬ (x < 0 ∨ nI (cn v 1) ≤ x) then (if y = 0 then v 3 x.toNatClampNeg else if y = 1 then v 4 x.toNatClampNeg else if y = 2 then v 5 x.toNatClampNeg else if y = 3 then grF v x.toNatClampNeg else if ¬ (y < 100 ∨ 99 + v 5 x.toNatClampNeg < y) then v 6 (20 * x.toNatClampNeg + (y - 100).toNatClampNeg) else -1) else -1
/-- a number of a row told by its place -/
theorem row_get {y : Int32} {p : Nat} (hp : p ≤ 20) (h : ¬ (y < 100 ∨ 99 + nI p < y)) : ∃ k, k < p ∧ y - 100 = nI k ∧ y = nI (100 + k) := by
  have e1 : (99 : Int32) + nI p = nI (99 + p) := nI_add 99 p
  rw [e1] at h
  have h1 : ¬ y < 0 := fun q => h (Or.inl (by
    rw [Int32.lt_iff_toInt_lt] at q ⊢
    have a1 : (0 : Int32).toInt = 0 := by decide
    have a2 : (100 : Int32).toInt = 100 := by decide
    omega))
  obtain ⟨n, hn, e⟩ := nI_of h1
  subst e
  have h2 : 100 ≤ n := by
    apply Decidable.byContradiction; intro hc
    exact h (Or.inl (nI_lt (a := n) (b := 100) (by omega) (by omega)))
  have h3 : n ≤ 99 + p := by
    apply Decidable.byContradiction; intro hc
    exact h (Or.inr (nI_lt (by omega) (by omega)))
  obtain ⟨k, rfl⟩ : ∃ k, n = 100 + k := ⟨n - 100, by omega⟩
  refine ⟨k, by omega, ?_, rfl⟩
  rw [← nI_add]
  show (100 : Int32) + nI k - 100 = nI k
  grind
theorem cs_rowAt (hS : SeaAt sh R s) (hV : SeaV I s v) (hw : Wf v) {t k : Nat} (ht : t < cn v 1) (hk : k < per v t) : Ec X 1 90 [.ref s, .int (nI t), .int (nI k)] (sh, I, L, R) (fun r h' => r = some (.int (v 6 (20 * t + k))) ∧ h' = (sh, I, L, R)) := by
  have hb := hw.1.2
  have hp := per_eq hw ht
  refine Ec.of (Nat.le_of_ble_eq_true rfl) ?_
  refine e_aload rfl rfl ?_
  refine e_getR rfl hS.1 (hS.2 4 _ rfl).2 ?_
  refine e_iload rfl rfl ?_
  refine e_ipush rfl ?_
  refine e_imul rfl ?_
  refine e_iload rfl rfl ?_
  refine e_iadd rfl ?_
  refine e_ialv (t := 20 * t + k) (n := 60) rfl (hS.2 4 _ rfl).1 (show nI t * 20 + nI k = nI (20 * t + k) by show nI t * nI 20 + nI k = _; rw [nI_times, nI_add, Nat.mul_comm]) (by omega) (by decide) ((hV.2.2.2.2.1 t ht).2.2.2 k (by rw [hp.1]; exact nI_lt hk (by omega)) (by omega)) ?_
  exact Eg.ret rfl (by decide) rfl ⟨rfl, rfl⟩
theorem cf_train (hq : CQ sh I R w m s v) {x y : Int32} : Ec X 2 144 [.ref 0, .int x, .int y] (sh, I, L, R) (fun r h' => r = some (.int (aTrain v x y)) ∧ h' = (sh, I, L, R)) := by
  obtain ⟨h0, r7, hWd, rm, hM, hms, hS, hV, hU, hw, hW⟩ := hq
  have hb := hw.1.2
  refine Ec.of (Nat.le_of_ble_eq_true rfl) ?_
  refine e_aload rfl rfl ?_
  refine e_getR rfl h0 r7 ?_
  refine e_getR rfl hWd rm ?_
  refine e_getR rfl hM.1 hms ?_
  refine e_astore rfl ?_
  refine e_iload rfl rfl ?_
  refine e_iflt_b rfl (fun b12 => ?_) (fun b12 => ?_)
  · refine e_ipush rfl ?_
    exact Eg.ret rfl (by decide) rfl ⟨congrArg (fun z => some (Value.int z)) (show ((-1) : Int32) = aTrain v x y from by unfold aTrain; grind), rfl⟩
  · refine e_iload rfl rfl ?_
    refine e_aload rfl rfl ?_
    refine e_getIv rfl hS.1 (hV.1 1 (by decide)) ?_
    refine e_clt_b rfl (fun b20 => ?_) (fun b20 => ?_)
    · have b0 : ¬ (x < 0 ∨ nI (cn v 1) ≤ x) := fun q => q.elim b12 (Int32.not_le.mpr b20)
      obtain ⟨t, ht, et⟩ := nI_get b0 (by omega)
      subst et
      have hp := per_eq hw ht
      refine e_iload rfl rfl ?_
      by_cases q0 : y = 0
      · subst q0
        refine e_tsw rfl (by decide) rfl ?_
        refine e_aload rfl rfl ?_
        refine e_getR rfl hS.1 (hS.2 0 _ rfl).2 ?_
        refine e_iload rfl rfl ?_
        refine e_ialv (t := t) (n := 3) rfl (hS.2 0 _ rfl).1 rfl (by omega) (by decide) (hV.2.2.2.2.1 t (by omega)).1 ?_
        exact Eg.ret rfl (by decide) rfl ⟨congrArg (fun z => some (Value.int z)) (show (v 3 t : Int32) = aTrain v (nI t) 0 from by unfold aTrain; rw [if_pos b0, if_pos rfl, nI_clamp (by omega)]), rfl⟩
      · by_cases q1 : y = 1
        · subst q1
          refine e_tsw rfl (by decide) rfl ?_
          refine e_aload rfl rfl ?_
          refine e_getR rfl hS.1 (hS.2 1 _ rfl).2 ?_
          refine e_iload rfl rfl ?_
          refine e_ialv (t := t) (n := 3) rfl (hS.2 1 _ rfl).1 rfl (by omega) (by decide) (hV.2.2.2.2.1 t (by omega)).2.1 ?_
          exact Eg.ret rfl (by decide) rfl ⟨congrArg (fun z => some (Value.int z)) (show (v 4 t : Int32) = aTrain v (nI t) 1 from by unfold aTrain; rw [if_pos b0, if_neg (by decide), if_pos rfl, nI_clamp (by omega)]), rfl⟩
        · by_cases q2 : y = 2
          · subst q2
            refine e_tsw rfl (by decide) rfl ?_
            refine e_aload rfl rfl ?_
            refine e_getR rfl hS.1 (hS.2 2 _ rfl).2 ?_
            refine e_iload rfl rfl ?_
            refine e_ialv (t := t) (n := 3) rfl (hS.2 2 _ rfl).1 rfl (by omega) (by decide) (hV.2.2.2.2.1 t (by omega)).2.2.1 ?_
            exact Eg.ret rfl (by decide) rfl ⟨congrArg (fun z => some (Value.int z)) (show (v 5 t : Int32) = aTrain v (nI t) 2 from by unfold aTrain; rw [if_pos b0, if_neg (by decide), if_neg (by decide), if_pos rfl, nI_clamp (by omega)]), rfl⟩
          · by_cases q3 : y = 3
            · subst q3
              refine e_tsw rfl (by decide) rfl ?_
              refine e_aload rfl rfl ?_
              refine e_getR rfl hS.1 (hS.2 3 _ rfl).2 ?_
              refine e_iload rfl rfl ?_
              refine e_ialv (t := t) (n := 3) rfl (hS.2 3 _ rfl).1 rfl (by omega) (by decide) (hU.2 t (by omega)) ?_
              exact Eg.ret rfl (by decide) rfl ⟨congrArg (fun z => some (Value.int z)) (show (grF v t : Int32) = aTrain v (nI t) 3 from by unfold aTrain; rw [if_pos b0, if_neg (by decide), if_neg (by decide), if_neg (by decide), if_pos rfl, nI_clamp (by omega)]), rfl⟩
            · refine e_tswd rfl (sw_out (n := 4) (by decide) (fun t ht e => by match t, ht with | 0, _ => exact q0 e | 1, _ => exact q1 e | 2, _ => exact q2 e | 3, _ => exact q3 e)) ?_
              refine e_iload rfl rfl ?_
              refine e_ipush rfl ?_
              refine e_ipush rfl ?_
              refine e_aload rfl rfl ?_
              refine e_getR rfl hS.1 (hS.2 2 _ rfl).2 ?_
              refine e_iload rfl rfl ?_
              refine e_ialv (t := t) (n := 3) rfl (hS.2 2 _ rfl).1 rfl (by omega) (by decide) ((hV.2.2.2.2.1 t (by omega)).2.2.1.trans hp.1) ?_
              refine e_iadd rfl ?_
              refine Eg.p3 rfl (by decide) (by decide) rfl (Nat.le_of_ble_eq_true rfl) (xrcv_ofs (Or.inl rfl)) (cs_withinY.mono (by decide)) ?_
              refine e_ifeq_b rfl (fun bi => ?_) (fun bi => ?_)
              · replace bi := yn_0.mp bi
                refine e_ipush rfl ?_
                exact Eg.ret rfl (by decide) rfl ⟨congrArg (fun z => some (Value.int z)) (show ((-1) : Int32) = aTrain v (nI t) y from by unfold aTrain; rw [if_pos b0, if_neg q0, if_neg q1, if_neg q2, if_neg q3, nI_clamp (by omega), if_neg (by rw [hp.1]; exact bi)]), rfl⟩
              · replace bi := yn_n0.mp bi
                obtain ⟨k, hk, ek, -⟩ := row_get hp.2.2 bi
                refine e_aload rfl rfl ?_
                refine e_iload rfl rfl ?_
                refine e_iload rfl rfl ?_
                refine e_ipush rfl ?_
                refine e_isub rfl ?_
                rw [show y - 100 = nI k from ek]
                refine Eg.p3 rfl (by decide) (by decide) rfl (Nat.le_of_ble_eq_true rfl) (xrcv_of rfl hS.1 rfl) ((cs_rowAt hS hV hw (t := t) (k := k) (by omega) (by omega)).mono (by decide)) ?_
                refine e_goto rfl ?_
                exact Eg.ret rfl (by decide) rfl ⟨congrArg (fun z => some (Value.int z)) (show (v 6 (20 * t + k) : Int32) = aTrain v (nI t) y from by unfold aTrain; rw [if_pos b0, if_neg q0, if_neg q1, if_neg q2, if_neg q3, nI_clamp (by omega), if_pos (by rw [hp.1]; exact bi), ek, nI_clamp (by omega)]), rfl⟩
    · refine e_ipush rfl ?_
      exact Eg.ret rfl (by decide) rfl ⟨congrArg (fun z => some (Value.int z)) (show ((-1) : Int32) = aTrain v x y from by unfold aTrain; grind), rfl⟩
theorem md_train (hM : MW sh R) (hv : mV I v) (hw : Wf v) {x y : Int32} : Ec X 3 245 [.ref 290, .int x, .int y] (sh, I, L, R) (fun r h' => r = some (.int (aTrain v x y)) ∧ h' = (sh, I, L, R)) := by
  have hb := hw.1.2
  refine Ec.of (Nat.le_of_ble_eq_true rfl) ?_
  refine e_aload rfl rfl ?_
  refine e_iload rfl rfl ?_
  refine Eg.p2 rfl (by decide) (by decide) rfl (Nat.le_of_ble_eq_true rfl) (xrcv_of rfl hM.1 rfl) ((ms_isTrain hM hv hw).mono (by decide)) ?_
  refine e_ifne_b rfl (fun b0 => ?_) (fun b0 => ?_)
  · replace b0 := yn_n0.mp b0
    obtain ⟨t, ht, et⟩ := nI_get b0 (by omega)
    subst et
    have hp := per_eq hw ht
    refine e_iload rfl rfl ?_
    by_cases q0 : y = 0
    · subst q0
      refine e_tsw rfl (by decide) rfl ?_
      refine e_aload rfl rfl ?_
      refine e_getR rfl hM.1 (hM.2 2 _ rfl).2 ?_
      refine e_iload rfl rfl ?_
      refine e_ialv (t := t) (n := 3) rfl (hM.2 2 _ rfl).1 rfl (by omega) (by decide) (hv 3 t (by decide)) ?_
      exact Eg.ret rfl (by decide) rfl ⟨congrArg (fun z => some (Value.int z)) (show (v 3 t : Int32) = aTrain v (nI t) 0 from by unfold aTrain; rw [if_pos b0, if_pos rfl, nI_clamp (by omega)]), rfl⟩
    · by_cases q1 : y = 1
      · subst q1
        refine e_tsw rfl (by decide) rfl ?_
        refine e_aload rfl rfl ?_
        refine e_getR rfl hM.1 (hM.2 3 _ rfl).2 ?_
        refine e_iload rfl rfl ?_
        refine e_ialv (t := t) (n := 3) rfl (hM.2 3 _ rfl).1 rfl (by omega) (by decide) (hv 4 t (by decide)) ?_
        exact Eg.ret rfl (by decide) rfl ⟨congrArg (fun z => some (Value.int z)) (show (v 4 t : Int32) = aTrain v (nI t) 1 from by unfold aTrain; rw [if_pos b0, if_neg (by decide), if_pos rfl, nI_clamp (by omega)]), rfl⟩
      · by_cases q2 : y = 2
        · subst q2
          refine e_tsw rfl (by decide) rfl ?_
          refine e_aload rfl rfl ?_
          refine e_getR rfl hM.1 (hM.2 4 _ rfl).2 ?_
          refine e_iload rfl rfl ?_
          refine e_ialv (t := t) (n := 3) rfl (hM.2 4 _ rfl).1 rfl (by omega) (by decide) (hv 5 t (by decide)) ?_
          exact Eg.ret rfl (by decide) rfl ⟨congrArg (fun z => some (Value.int z)) (show (v 5 t : Int32) = aTrain v (nI t) 2 from by unfold aTrain; rw [if_pos b0, if_neg (by decide), if_neg (by decide), if_pos rfl, nI_clamp (by omega)]), rfl⟩
        · by_cases q3 : y = 3
          · subst q3
            refine e_tsw rfl (by decide) rfl ?_
            refine e_aload rfl rfl ?_
            refine e_iload rfl rfl ?_
            refine Eg.p2 rfl (by decide) (by decide) rfl (Nat.le_of_ble_eq_true rfl) (xrcv_of rfl hM.1 rfl) ((ms_greatestOf hM hv hw (t := t) (by omega)).mono (by decide)) ?_
            exact Eg.ret rfl (by decide) rfl ⟨congrArg (fun z => some (Value.int z)) (show (grF v t : Int32) = aTrain v (nI t) 3 from by unfold aTrain; rw [if_pos b0, if_neg (by decide), if_neg (by decide), if_neg (by decide), if_pos rfl, nI_clamp (by omega)]), rfl⟩
          · refine e_tswd rfl (sw_out (n := 4) (by decide) (fun t ht e => by match t, ht with | 0, _ => exact q0 e | 1, _ => exact q1 e | 2, _ => exact q2 e | 3, _ => exact q3 e)) ?_
            refine e_iload rfl rfl ?_
            refine e_i2l rfl ?_
            refine e_lpush rfl ?_
            refine e_ipush rfl ?_
            refine e_aload rfl rfl ?_
            refine e_getR rfl hM.1 (hM.2 4 _ rfl).2 ?_
            refine e_iload rfl rfl ?_
            refine e_ialv (t := t) (n := 3) rfl (hM.2 4 _ rfl).1 rfl (by omega) (by decide) ((hv 5 t (by decide)).trans hp.1) ?_
            refine e_iadd rfl ?_
            refine e_i2l rfl ?_
            refine Eg.p3 rfl (by decide) (by decide) rfl (Nat.le_of_ble_eq_true rfl) (xrcv_ofs (Or.inl rfl)) ((ms_inv (x := y) (y := 100) (z := (99 + (nI (per v t)))) rfl (by decide) rfl).mono (by decide)) ?_
            refine e_ifeq_b rfl (fun bi => ?_) (fun bi => ?_)
            · replace bi := yn_0.mp bi
              refine e_ipush rfl ?_
              exact Eg.ret rfl (by decide) rfl ⟨congrArg (fun z => some (Value.int z)) (show ((-1) : Int32) = aTrain v (nI t) y from by unfold aTrain; rw [if_pos b0, if_neg q0, if_neg q1, if_neg q2, if_neg q3, nI_clamp (by omega), if_neg (by rw [hp.1]; exact bi)]), rfl⟩
            · replace bi := yn_n0.mp bi
              obtain ⟨k, hk, ek, e2⟩ := row_get hp.2.2 bi
              refine e_aload rfl rfl ?_
              refine e_getR rfl hM.1 (hM.2 5 _ rfl).2 ?_
              refine e_ipush rfl ?_
              refine e_iload rfl rfl ?_
              refine e_imul rfl ?_
              refine e_iload rfl rfl ?_
              refine e_iadd rfl ?_
              refine e_ipush rfl ?_
              refine e_isub rfl ?_
              refine e_ialv (t := 20 * t + k) (n := 60) rfl (hM.2 5 _ rfl).1 (show (20 : Int32) * nI t + y - 100 = nI (20 * t + k) by rw [← nI_add, ← nI_times, ← ek]; show nI 20 * nI t + y - 100 = _; grind) (by omega) (by decide) (hv 6 (20 * t + k) (by decide)) ?_
              refine e_goto rfl ?_
              exact Eg.ret rfl (by decide) rfl ⟨congrArg (fun z => some (Value.int z)) (show (v 6 (20 * t + k) : Int32) = aTrain v (nI t) y from by unfold aTrain; rw [if_pos b0, if_neg q0, if_neg q1, if_neg q2, if_neg q3, nI_clamp (by omega), if_pos (by rw [hp.1]; exact bi), ek, nI_clamp (by omega)]), rfl⟩
  · replace b0 := yn_0.mp b0
    refine e_ipush rfl ?_
    exact Eg.ret rfl (by decide) rfl ⟨congrArg (fun z => some (Value.int z)) (show ((-1) : Int32) = aTrain v x y from by unfold aTrain; grind), rfl⟩
def aPlace (v : Nat → Nat → Int32) (x y : Int32) : Int32 := if plc v x = true then (if y = 0 then nI (pcl v x.toNatClampNeg) else if y = 1 then plm v x.toNatClampNeg else if y = 2 then pco v x.toNatClampNeg else if y = 3 then yn (lv v (pcl v x.toNatClampNeg) (nI (cn v 7)) ≤ plm v x.toNatClampNeg) else -1) else -1
theorem cf_place (hq : CQ sh I R w m s v) {x y : Int32} : Ec X 5 145 [.ref 0, .int x, .int y] (sh, I, L, R) (fun r h' => r = some (.int (aPlace v x y)) ∧ h' = (sh, I, L, R)) := by
  obtain ⟨h0, r7, hWd, rm, hM, hms, hS, hV, hU, hw, hW⟩ := hq
  have hb := hw.1.2
  refine Ec.of (Nat.le_of_ble_eq_true rfl) ?_
  refine e_aload rfl rfl ?_
  refine e_getR rfl h0 r7 ?_
  refine e_getR rfl hWd rm ?_
  refine e_getR rfl hM.1 hms ?_
  refine e_astore rfl ?_
  refine e_aload rfl rfl ?_
  refine e_iload rfl rfl ?_
  refine Eg.p2 rfl (by decide) (by decide) rfl (Nat.le_of_ble_eq_true rfl) (xrcv_of rfl hS.1 rfl) ((cs_hasPlace hS hV).mono (by decide)) ?_
  refine e_ifne_b rfl (fun b16 => ?_) (fun b16 => ?_)
  · replace b16 := yn_n0.mp b16
    obtain ⟨t, et, hp⟩ := plc_get b16 hw
    subst et
    have hp8 := hp.lt hw
    have hpc := (hp.v hw).2.1
    refine e_iload rfl rfl ?_
    by_cases q0 : y = 0
    · subst q0
      refine e_tsw rfl (by decide) rfl ?_
      refine e_aload rfl rfl ?_
      refine e_getR rfl hS.1 (hS.2 6 _ rfl).2 ?_
      refine e_iload rfl rfl ?_
      refine e_ialv (t := t) (n := 8) rfl (hS.2 6 _ rfl).1 rfl (by omega) (by decide) (hV.p (p := t) (by assumption) hw).1 ?_
      exact Eg.ret rfl (by decide) rfl ⟨congrArg (fun z => some (Value.int z)) (show (nI (pcl v t) : Int32) = aPlace v (nI t) 0 from by unfold aPlace; rw [if_pos b16, if_pos rfl, nI_clamp (by omega)]), rfl⟩
    · by_cases q1 : y = 1
      · subst q1
        refine e_tsw rfl (by decide) rfl ?_
        refine e_aload rfl rfl ?_
        refine e_getR rfl hS.1 (hS.2 7 _ rfl).2 ?_
        refine e_iload rfl rfl ?_
        refine e_ialv (t := t) (n := 8) rfl (hS.2 7 _ rfl).1 rfl (by omega) (by decide) (hV.p (p := t) (by assumption) hw).2.1 ?_
        exact Eg.ret rfl (by decide) rfl ⟨congrArg (fun z => some (Value.int z)) (show (plm v t : Int32) = aPlace v (nI t) 1 from by unfold aPlace; rw [if_pos b16, if_neg (by decide), if_pos rfl, nI_clamp (by omega)]), rfl⟩
      · by_cases q2 : y = 2
        · subst q2
          refine e_tsw rfl (by decide) rfl ?_
          refine e_aload rfl rfl ?_
          refine e_getR rfl hS.1 (hS.2 8 _ rfl).2 ?_
          refine e_iload rfl rfl ?_
          refine e_ialv (t := t) (n := 8) rfl (hS.2 8 _ rfl).1 rfl (by omega) (by decide) (hV.p (p := t) (by assumption) hw).2.2 ?_
          exact Eg.ret rfl (by decide) rfl ⟨congrArg (fun z => some (Value.int z)) (show (pco v t : Int32) = aPlace v (nI t) 2 from by unfold aPlace; rw [if_pos b16, if_neg (by decide), if_neg (by decide), if_pos rfl, nI_clamp (by omega)]), rfl⟩
        · by_cases q3 : y = 3
          · subst q3
            refine e_tsw rfl (by decide) rfl ?_
            refine e_aload rfl rfl ?_
            refine e_getR rfl h0 r7 ?_
            refine e_getR rfl hWd rm ?_
            refine e_iload rfl rfl ?_
            refine e_aload rfl rfl ?_
            refine e_getR rfl h0 r7 ?_
            refine e_getR rfl hWd rm ?_
            refine e_getIv rfl hM.1 hW.1 ?_
            refine Eg.p3 rfl (by decide) (by decide) rfl (Nat.le_of_ble_eq_true rfl) (xrcv_of rfl hM.1 rfl) ((cs_isOpen hS hV hw hM hms hW (p := t) (by assumption)).mono (by decide)) ?_
            refine e_ifeq_b rfl (fun b94 => ?_) (fun b94 => ?_)
            · replace b94 := yn_0.mp b94
              refine e_ipush rfl ?_
              exact Eg.ret rfl (by decide) rfl ⟨congrArg (fun z => some (Value.int z)) (show (0 : Int32) = aPlace v (nI t) 3 from by unfold aPlace; rw [if_pos b16, if_neg (by decide), if_neg (by decide), if_neg (by decide), if_pos rfl, nI_clamp (by omega), yn_f b94]), rfl⟩
            · replace b94 := yn_n0.mp b94
              refine e_ipush rfl ?_
              refine e_goto rfl ?_
              exact Eg.ret rfl (by decide) rfl ⟨congrArg (fun z => some (Value.int z)) (show (1 : Int32) = aPlace v (nI t) 3 from by unfold aPlace; rw [if_pos b16, if_neg (by decide), if_neg (by decide), if_neg (by decide), if_pos rfl, nI_clamp (by omega), yn_t b94]), rfl⟩
          · refine e_tswd rfl (sw_out (n := 4) (by decide) (fun t ht e => by match t, ht with | 0, _ => exact q0 e | 1, _ => exact q1 e | 2, _ => exact q2 e | 3, _ => exact q3 e)) ?_
            refine e_ipush rfl ?_
            exact Eg.ret rfl (by decide) rfl ⟨congrArg (fun z => some (Value.int z)) (show ((-1) : Int32) = aPlace v (nI t) y from by unfold aPlace; rw [if_pos b16, if_neg q0, if_neg q1, if_neg q2, if_neg q3]), rfl⟩
  · replace b16 := yn_0.mp b16
    refine e_ipush rfl ?_
    exact Eg.ret rfl (by decide) rfl ⟨congrArg (fun z => some (Value.int z)) (show ((-1) : Int32) = aPlace v x y from by unfold aPlace; grind), rfl⟩
theorem md_place (hM : MW sh R) (hv : mV I v) (hw : Wf v) {x y : Int32} : Ec X 5 246 [.ref 290, .int x, .int y] (sh, I, L, R) (fun r h' => r = some (.int (aPlace v x y)) ∧ h' = (sh, I, L, R)) := by
  have hb := hw.1.2
  refine Ec.of (Nat.le_of_ble_eq_true rfl) ?_
  refine e_aload rfl rfl ?_
  refine e_iload rfl rfl ?_
  refine Eg.p2 rfl (by decide) (by decide) rfl (Nat.le_of_ble_eq_true rfl) (xrcv_of rfl hM.1 rfl) ((ms_isPlace hM hv hw).mono (by decide)) ?_
  refine e_ifne_b rfl (fun b5 => ?_) (fun b5 => ?_)
  · replace b5 := yn_n0.mp b5
    obtain ⟨t, et, hp⟩ := plc_get b5 hw
    subst et
    have hp8 := hp.lt hw
    have hpc := (hp.v hw).2.1
    refine e_iload rfl rfl ?_
    by_cases q0 : y = 0
    · subst q0
      refine e_tsw rfl (by decide) rfl ?_
      refine e_aload rfl rfl ?_
      refine e_iload rfl rfl ?_
      refine Eg.p2 rfl (by decide) (by decide) rfl (Nat.le_of_ble_eq_true rfl) (xrcv_of rfl hM.1 rfl) ((ms_cellOf hM hv hw (p := t) (by assumption)).mono (by decide)) ?_
      exact Eg.ret rfl (by decide) rfl ⟨congrArg (fun z => some (Value.int z)) (show (nI (pcl v t) : Int32) = aPlace v (nI t) 0 from by unfold aPlace; rw [if_pos b5, if_pos rfl, nI_clamp (by omega)]), rfl⟩
    · by_cases q1 : y = 1
      · subst q1
        refine e_tsw rfl (by decide) rfl ?_
        refine e_aload rfl rfl ?_
        refine e_iload rfl rfl ?_
        refine Eg.p2 rfl (by decide) (by decide) rfl (Nat.le_of_ble_eq_true rfl) (xrcv_of rfl hM.1 rfl) ((ms_doorOf hM hv hw (p := t) (by assumption)).mono (by decide)) ?_
        exact Eg.ret rfl (by decide) rfl ⟨congrArg (fun z => some (Value.int z)) (show (plm v t : Int32) = aPlace v (nI t) 1 from by unfold aPlace; rw [if_pos b5, if_neg (by decide), if_pos rfl, nI_clamp (by omega)]), rfl⟩
      · by_cases q2 : y = 2
        · subst q2
          refine e_tsw rfl (by decide) rfl ?_
          refine e_iload rfl rfl ?_
          refine e_ipush rfl ?_
          refine e_cge_b rfl (fun b54 => ?_) (fun b54 => ?_)
          · have h4 : ¬ t < 4 := fun hc => nI_ge (b := 4) hc (by omega) b54
            refine e_aload rfl rfl ?_
            refine e_getR rfl hM.1 (hM.2 11 _ rfl).2 ?_
            refine e_iload rfl rfl ?_
            refine e_ipush rfl ?_
            refine e_isub rfl ?_
            rw [show (nI t) - 4 = nI (t - 4) from (by obtain ⟨q, rfl⟩ : ∃ q, t = q + 4 := ⟨t - 4, by omega⟩; rw [← nI_add]; show nI q + 4 - 4 = nI (q + 4 - 4); rw [Nat.add_sub_cancel]; grind)]
            refine e_ialv (t := (t - 4)) (n := 4) rfl (hM.2 11 _ rfl).1 rfl (by omega) (by decide) ((hv 12 (t - 4) (by decide)).trans (if_neg h4 : pco v t = v 12 (t - 4)).symm) ?_
            exact Eg.ret rfl (by decide) rfl ⟨congrArg (fun z => some (Value.int z)) (show (pco v t : Int32) = aPlace v (nI t) 2 from by unfold aPlace; rw [if_pos b5, if_neg (by decide), if_neg (by decide), if_pos rfl, nI_clamp (by omega)]), rfl⟩
          · have h4 : t < 4 := Decidable.byContradiction fun hc => b54 (nI_le (a := 4) (by omega) (by omega))
            refine e_aload rfl rfl ?_
            refine e_getR rfl hM.1 (hM.2 8 _ rfl).2 ?_
            refine e_iload rfl rfl ?_
            refine e_ialv (t := t) (n := 4) rfl (hM.2 8 _ rfl).1 rfl (by omega) (by decide) ((hv 9 t (by decide)).trans (if_pos h4 : pco v t = v 9 t).symm) ?_
            refine e_goto rfl ?_
            exact Eg.ret rfl (by decide) rfl ⟨congrArg (fun z => some (Value.int z)) (show (pco v t : Int32) = aPlace v (nI t) 2 from by unfold aPlace; rw [if_pos b5, if_neg (by decide), if_neg (by decide), if_pos rfl, nI_clamp (by omega)]), rfl⟩
        · by_cases q3 : y = 3
          · subst q3
            refine e_tsw rfl (by decide) rfl ?_
            refine e_aload rfl rfl ?_
            refine e_iload rfl rfl ?_
            refine e_aload rfl rfl ?_
            refine e_getR rfl hM.1 (hM.2 0 _ rfl).2 ?_
            refine e_ipush rfl ?_
            refine e_ialv (t := 7) (n := 14) rfl (hM.2 0 _ rfl).1 rfl (by decide) (by decide) (hv.n hw (j := 7) (by decide)) ?_
            refine e_ipush rfl ?_
            refine e_ipush rfl ?_
            refine Eg.p5 rfl (by decide) (by decide) rfl (Nat.le_of_ble_eq_true rfl) (xrcv_of rfl hM.1 rfl) ((ms_isOpen1 hM hv hw (p := t) (by assumption)).mono (by decide)) ?_
            refine e_ifeq_b rfl (fun b89 => ?_) (fun b89 => ?_)
            · replace b89 := yn_0.mp b89
              refine e_ipush rfl ?_
              exact Eg.ret rfl (by decide) rfl ⟨congrArg (fun z => some (Value.int z)) (show (0 : Int32) = aPlace v (nI t) 3 from by unfold aPlace; rw [if_pos b5, if_neg (by decide), if_neg (by decide), if_neg (by decide), if_pos rfl, nI_clamp (by omega), yn_f b89]), rfl⟩
            · replace b89 := yn_n0.mp b89
              refine e_ipush rfl ?_
              refine e_goto rfl ?_
              exact Eg.ret rfl (by decide) rfl ⟨congrArg (fun z => some (Value.int z)) (show (1 : Int32) = aPlace v (nI t) 3 from by unfold aPlace; rw [if_pos b5, if_neg (by decide), if_neg (by decide), if_neg (by decide), if_pos rfl, nI_clamp (by omega), yn_t b89]), rfl⟩
          · refine e_tswd rfl (sw_out (n := 4) (by decide) (fun t ht e => by match t, ht with | 0, _ => exact q0 e | 1, _ => exact q1 e | 2, _ => exact q2 e | 3, _ => exact q3 e)) ?_
            refine e_ipush rfl ?_
            exact Eg.ret rfl (by decide) rfl ⟨congrArg (fun z => some (Value.int z)) (show ((-1) : Int32) = aPlace v (nI t) y from by unfold aPlace; rw [if_pos b5, if_neg q0, if_neg q1, if_neg q2, if_neg q3]), rfl⟩
  · replace b5 := yn_0.mp b5
    refine e_ipush rfl ?_
    exact Eg.ret rfl (by decide) rfl ⟨congrArg (fun z => some (Value.int z)) (show ((-1) : Int32) = aPlace v x y from by unfold aPlace; grind), rfl⟩
def aRound (v : Nat → Nat → Int32) : Int32 := if ¬ cn v 0 = 0 then nI (rndN v) else -1
theorem cf_round (hq : CQ sh I R w m s v) : Ec X 2 153 [.ref 0] (sh, I, L, R) (fun r h' => r = some (.int (aRound v)) ∧ h' = (sh, I, L, R)) := by
  obtain ⟨h0, r7, hWd, rm, hM, hms, hS, hV, hU, hw, hW⟩ := hq
  have hb := hw.1.2
  refine Ec.of (Nat.le_of_ble_eq_true rfl) ?_
  refine e_aload rfl rfl ?_
  refine e_getR rfl h0 r7 ?_
  refine e_getR rfl hWd rm ?_
  refine e_getR rfl hM.1 hms ?_
  refine Eg.p1 rfl (by decide) (by decide) rfl (Nat.le_of_ble_eq_true rfl) (xrcv_of rfl hS.1 rfl) ((cs_isThereV hS hV hw).mono (by decide)) ?_
  refine e_ifeq_b rfl (fun b13 => ?_) (fun b13 => ?_)
  · replace b13 := yn_0.mp b13
    refine e_ipush rfl ?_
    exact Eg.ret rfl (by decide) rfl ⟨congrArg (fun z => some (Value.int z)) (show ((-1) : Int32) = aRound v from by unfold aRound; grind), rfl⟩
  · replace b13 := yn_n0.mp b13
    refine e_aload rfl rfl ?_
    refine e_getR rfl h0 r7 ?_
    refine e_getR rfl hWd rm ?_
    refine e_getR rfl hM.1 hms ?_
    refine e_getIv rfl hS.1 hU.1 ?_
    refine e_goto rfl ?_
    exact Eg.ret rfl (by decide) rfl ⟨congrArg (fun z => some (Value.int z)) (show (nI (rndN v) : Int32) = aRound v from by unfold aRound; grind), rfl⟩
theorem md_round (hM : MW sh R) (hv : mV I v) (hw : Wf v) : Ec X 3 267 [.ref 290] (sh, I, L, R) (fun r h' => r = some (.int (aRound v)) ∧ h' = (sh, I, L, R)) := by
  have hb := hw.1.2
  refine Ec.of (Nat.le_of_ble_eq_true rfl) ?_
  refine e_aload rfl rfl ?_
  refine Eg.p1 rfl (by decide) (by decide) rfl (Nat.le_of_ble_eq_true rfl) (xrcv_of rfl hM.1 rfl) ((ms_isSeaV hM hv hw).mono (by decide)) ?_
  refine e_ifeq_b rfl (fun b4 => ?_) (fun b4 => ?_)
  · replace b4 := yn_0.mp b4
    refine e_ipush rfl ?_
    exact Eg.ret rfl (by decide) rfl ⟨congrArg (fun z => some (Value.int z)) (show ((-1) : Int32) = aRound v from by unfold aRound; grind), rfl⟩
  · replace b4 := yn_n0.mp b4
    refine e_aload rfl rfl ?_
    refine Eg.p1 rfl (by decide) (by decide) rfl (Nat.le_of_ble_eq_true rfl) (xrcv_of rfl hM.1 rfl) ((ms_roundOf hM hv hw).mono (by decide)) ?_
    refine e_goto rfl ?_
    exact Eg.ret rfl (by decide) rfl ⟨congrArg (fun z => some (Value.int z)) (show (nI (rndN v) : Int32) = aRound v from by unfold aRound; grind), rfl⟩
/-- the first day of n from d on of which p holds -/
def fst (p : Int32 → Bool) (d : Int32) : Nat → Int32
  | 0 => -2
  | n + 1 => if p d then d else fst p (d + 1) n
theorem fst_skip {p : Int32 → Bool} {d : Int32} {n j : Nat} (hj : j ≤ n) (h : ∀ i, i < j → p (d + nI i) = false) : fst p d n = fst p (d + nI j) (n - j) := by
  induction j with
  | zero => rw [show nI 0 = 0 from nI_0, Int32.add_zero]; rfl
  | succ j ih =>
    rw [ih (by omega) (fun i hi => h i (by omega))]
    obtain ⟨q, e⟩ : ∃ q, n - j = q + 1 := ⟨n - j - 1, by omega⟩
    rw [e, show n - (j + 1) = q by omega]
    show (if p (d + nI j) then d + nI j else fst p (d + nI j + 1) q) = _
    rw [if_neg (by rw [h j (by omega)]; decide), Int32.add_assoc, nI_1]
theorem fst_at {p : Int32 → Bool} {d : Int32} {n j : Nat} (hj : j < n) (h : ∀ i, i < j → p (d + nI i) = false) (hp : p (d + nI j) = true) : fst p d n = d + nI j := by
  rw [fst_skip (by omega) h]
  obtain ⟨q, e⟩ : ∃ q, n - j = q + 1 := ⟨n - j - 1, by omega⟩
  rw [e]
  exact if_pos hp
theorem fst_no {p : Int32 → Bool} {d : Int32} {n : Nat} (h : ∀ i, i < n → p (d + nI i) = false) : fst p d n = -2 := by
  rw [fst_skip (Nat.le_refl n) h, Nat.sub_self]; rfl
theorem lt_snoc {P : Nat → Prop} {j : Nat} (h : ∀ i, i < j → P i) (hj : P j) : ∀ i, i < j + 1 → P i := fun i hi => by
  by_cases e : i = j
  · subst e; exact hj
  · exact h i (by omega)
/-- days are small -/
theorem day_get {d : Int32} (h : ¬ (d < 0 ∨ 9999 < d)) : ∃ t, t ≤ 9999 ∧ d = nI t := by
  obtain ⟨t, ht, e⟩ := nI_of2 (x := d) (M := 9999) (n := 9999) (by decide) (fun q => h (Or.inl q)) (Int32.not_lt.mp (fun q => h (Or.inr q)))
  exact ⟨t, ht, e⟩
def opF (v : Nat → Nat → Int32) (F p : Nat) (d : Int32) : Bool := decide (lvF v F (pcl v p) d ≤ plm v p)
def aAgain (v : Nat → Nat → Int32) (x d : Int32) : Int32 := if plc v x = true ∧ ¬ (d < 0 ∨ 9999 < d) then fst (opF v (cn v 8) x.toNatClampNeg) d (rndN v) else -1
theorem cs_firstOpen {f : Nat} (hS : SeaAt sh R s) (hV : SeaV I s v) (hU : SeaW I s v) (hw : Wf v) (hM : MomAt sh R m) (hms : R m 0 = some s) (hW : MomV I m v) {p : Nat} {d : Int32} (hp : isP v p) : Ec X 5 13 [.ref f, .ref m, .int (nI p), .int d] (sh, I, L, R) (fun r h' => r = some (.int (fst (opF v (cn v 8) p) d (rndN v))) ∧ h' = (sh, I, L, R)) := by
  have hb := hw.1.2
  have hr := rnd_le hw
  refine Ec.of (Nat.le_of_ble_eq_true rfl) ?_
  refine e_ipush rfl ?_
  refine e_istore rfl ?_
  refine Eg.pk [0, 1, 2, 3, 4] [4, 0, 1, 2, 3] rfl (by decide) ?_
  refine up_ind (p := fun j => (∀ i, i < j → opF v (cn v 8) p (d + nI i) = false) → Eg X xTc _ 13 3 [(0, .ref f), (1, .ref m), (2, .int (nI p)), (3, .int d), (4, .int (nI j))] [] (sh, I, L, R) _) (n := rndN v) (j := 0) (fun j hj ih => ?_) ?_ (Nat.zero_le _) (fun i hi => absurd hi (by omega))
  · intro hno
    refine e_iload rfl rfl ?_
    refine e_aload rfl rfl ?_
    refine e_getR rfl hM.1 hms ?_
    refine e_getIv rfl hS.1 hU.1 ?_
    refine e_cge_f rfl (nI_ge hj (by omega)) ?_
    refine e_aload rfl rfl ?_
    refine e_getR rfl hM.1 hms ?_
    refine e_aload rfl rfl ?_
    refine e_getIv rfl hM.1 hW.2.1 ?_
    refine e_iload rfl rfl ?_
    refine e_iload rfl rfl ?_
    refine e_iload rfl rfl ?_
    refine e_iadd rfl ?_
    refine Eg.p4 rfl (by decide) (by decide) rfl (Nat.le_of_ble_eq_true rfl) (xrcv_of rfl hS.1 rfl) ((cs_isOpenBy hS hV hw (F := cn v 8) (p := p) (by omega) (by assumption)).mono (by decide)) ?_
    refine e_ifeq_b rfl (fun b31 => ?_) (fun b31 => ?_)
    · replace b31 := yn_0.mp b31
      refine e_iinc rfl rfl ?_
      refine e_goto rfl ?_
      refine Eg.pk [0, 1, 2, 3, 4] [4, 0, 1, 2, 3] rfl (by decide) ?_
      rw [nI_1]
      exact ih (lt_snoc hno (decide_eq_false b31))
    · replace b31 := yn_n0.mp b31
      refine e_iload rfl rfl ?_
      refine e_iload rfl rfl ?_
      refine e_iadd rfl ?_
      exact Eg.ret rfl (by decide) rfl ⟨congrArg (fun z => some (Value.int z)) (fst_at hj hno (decide_eq_true b31)).symm, rfl⟩
  · intro hno
    refine e_iload rfl rfl ?_
    refine e_aload rfl rfl ?_
    refine e_getR rfl hM.1 hms ?_
    refine e_getIv rfl hS.1 hU.1 ?_
    refine e_cge_t rfl (Int32.le_refl _) ?_
    refine e_ipush rfl ?_
    exact Eg.ret rfl (by decide) rfl ⟨congrArg (fun z => some (Value.int z)) (fst_no hno).symm, rfl⟩
theorem cf_again (hq : CQ sh I R w m s v) {f : Nat} (r11 : R 0 11 = some f) (hf : sh[f]? = some (1, 4)) {x d : Int32} : Ec X 6 154 [.ref 0, .int x, .int d] (sh, I, L, R) (fun r h' => r = some (.int (aAgain v x d)) ∧ h' = (sh, I, L, R)) := by
  obtain ⟨h0, r7, hWd, rm, hM, hms, hS, hV, hU, hw, hW⟩ := hq
  have hb := hw.1.2
  refine Ec.of (Nat.le_of_ble_eq_true rfl) ?_
  refine e_aload rfl rfl ?_
  refine e_getR rfl h0 r7 ?_
  refine e_getR rfl hWd rm ?_
  refine e_getR rfl hM.1 hms ?_
  refine e_iload rfl rfl ?_
  refine Eg.p2 rfl (by decide) (by decide) rfl (Nat.le_of_ble_eq_true rfl) (xrcv_of rfl hS.1 rfl) ((cs_hasPlace hS hV).mono (by decide)) ?_
  refine e_ifeq_b rfl (fun b14 => ?_) (fun b14 => ?_)
  · replace b14 := yn_0.mp b14
    refine e_ipush rfl ?_
    exact Eg.ret rfl (by decide) rfl ⟨congrArg (fun z => some (Value.int z)) (show ((-1) : Int32) = aAgain v x d from by unfold aAgain; rw [if_neg (by grind)]), rfl⟩
  · replace b14 := yn_n0.mp b14
    refine e_iload rfl rfl ?_
    refine Eg.p1 rfl (by decide) (by decide) rfl (Nat.le_of_ble_eq_true rfl) (xrcv_ofs (Or.inl rfl)) (cs_isDayY.mono (by decide)) ?_
    refine e_ifne_b rfl (fun b21 => ?_) (fun b21 => ?_)
    · replace b21 := yn_n0.mp b21
      obtain ⟨t, et, hp⟩ := plc_get b14 hw
      subst et
      have hp8 := hp.lt hw
      have hpc := (hp.v hw).2.1
      refine e_aload rfl rfl ?_
      refine e_getR rfl h0 r11 ?_
      refine e_aload rfl rfl ?_
      refine e_getR rfl h0 r7 ?_
      refine e_getR rfl hWd rm ?_
      refine e_iload rfl rfl ?_
      refine e_iload rfl rfl ?_
      refine Eg.p4 rfl (by decide) (by decide) rfl (Nat.le_of_ble_eq_true rfl) (xrcv_of rfl hf rfl) ((cs_firstOpen hS hV hU hw hM hms hW (p := t) (by assumption)).mono (by decide)) ?_
      exact Eg.ret rfl (by decide) rfl ⟨congrArg (fun z => some (Value.int z)) (show (fst (opF v (cn v 8) t) d (rndN v) : Int32) = aAgain v (nI t) d from by unfold aAgain; rw [if_pos ⟨b14, b21⟩, nI_clamp (by omega)]), rfl⟩
    · replace b21 := yn_0.mp b21
      refine e_ipush rfl ?_
      exact Eg.ret rfl (by decide) rfl ⟨congrArg (fun z => some (Value.int z)) (show ((-1) : Int32) = aAgain v x d from by unfold aAgain; rw [if_neg (by grind)]), rfl⟩
theorem md_again (hM : MW sh R) (hv : mV I v) (hw : Wf v) {x d : Int32} : Ec X 6 268 [.ref 290, .int x, .int d] (sh, I, L, R) (fun r h' => r = some (.int (aAgain v x d)) ∧ h' = (sh, I, L, R)) := by
  have hb := hw.1.2
  have hr := rnd_le hw
  refine Ec.of (Nat.le_of_ble_eq_true rfl) ?_
  refine e_aload rfl rfl ?_
  refine e_iload rfl rfl ?_
  refine Eg.p2 rfl (by decide) (by decide) rfl (Nat.le_of_ble_eq_true rfl) (xrcv_of rfl hM.1 rfl) ((ms_isPlace hM hv hw).mono (by decide)) ?_
  refine e_ifeq_b rfl (fun b5 => ?_) (fun b5 => ?_)
  · replace b5 := yn_0.mp b5
    refine e_ipush rfl ?_
    exact Eg.ret rfl (by decide) rfl ⟨congrArg (fun z => some (Value.int z)) (show ((-1) : Int32) = aAgain v x d from by unfold aAgain; rw [if_neg (by grind)]), rfl⟩
  · replace b5 := yn_n0.mp b5
    refine e_iload rfl rfl ?_
    refine Eg.p1 rfl (by decide) (by decide) rfl (Nat.le_of_ble_eq_true rfl) (xrcv_ofs (Or.inl rfl)) (ms_isDay.mono (by decide)) ?_
    refine e_ifne_b rfl (fun b12 => ?_) (fun b12 => ?_)
    · replace b12 := yn_n0.mp b12
      obtain ⟨t, et, hp⟩ := plc_get b5 hw
      subst et
      have hp8 := hp.lt hw
      have hpc := (hp.v hw).2.1
      obtain ⟨e, he, ed⟩ := day_get b12
      refine e_aload rfl rfl ?_
      refine Eg.p1 rfl (by decide) (by decide) rfl (Nat.le_of_ble_eq_true rfl) (xrcv_of rfl hM.1 rfl) ((ms_roundOf hM hv hw).mono (by decide)) ?_
      refine e_istore rfl ?_
      refine e_iload rfl rfl ?_
      refine e_istv (y := d + nI 0) rfl (Int32.add_zero d).symm ?_
      refine Eg.pk [0, 1, 2, 3, 4] [4, 3, 0, 1, 2] rfl (by decide) ?_
      refine up_ind (p := fun j => (∀ i, i < j → opF v (cn v 8) t (d + nI i) = false) → Eg X xTc _ 268 25 [(0, .ref 290), (1, .int (nI t)), (2, .int d), (3, .int (nI (rndN v))), (4, .int (d + nI j))] [] (sh, I, L, R) _) (n := rndN v) (j := 0) (fun j hj ih => ?_) ?_ (Nat.zero_le _) (fun i hi => absurd hi (by omega))
      · intro hno
        refine e_iload rfl rfl ?_
        refine e_iload rfl rfl ?_
        refine e_iload rfl rfl ?_
        refine e_iadd rfl ?_
        refine e_cge_f rfl (by rw [ed, nI_add, nI_add]; exact nI_ge (by omega) (by omega)) ?_
        refine e_aload rfl rfl ?_
        refine e_iload rfl rfl ?_
        refine e_iload rfl rfl ?_
        refine e_ipush rfl ?_
        refine e_ipush rfl ?_
        refine Eg.p5 rfl (by decide) (by decide) rfl (Nat.le_of_ble_eq_true rfl) (xrcv_of rfl hM.1 rfl) ((ms_isOpen0 hM hv hw (p := t) (M := 0) (by assumption) (by omega)).mono (by decide)) ?_
        refine e_ifeq_b rfl (fun b42 => ?_) (fun b42 => ?_)
        · replace b42 := yn_0.mp b42
          refine e_iinc rfl rfl ?_
          refine e_goto rfl ?_
          refine Eg.pk [0, 1, 2, 3, 4] [4, 0, 1, 2, 3] rfl (by decide) ?_
          rw [Int32.add_assoc, nI_1]
          exact ih (lt_snoc hno (decide_eq_false (by rw [← Nat.or_zero (cn v 8)]; exact b42)))
        · replace b42 := yn_n0.mp b42
          refine e_iload rfl rfl ?_
          exact Eg.ret rfl (by decide) rfl ⟨congrArg (fun z => some (Value.int z)) (show (d + nI j : Int32) = aAgain v (nI t) d from by unfold aAgain; rw [if_pos ⟨b5, b12⟩, nI_clamp (by omega), fst_at hj hno (decide_eq_true (by rw [← Nat.or_zero (cn v 8)]; exact b42))]), rfl⟩
      · intro hno
        refine e_iload rfl rfl ?_
        refine e_iload rfl rfl ?_
        refine e_iload rfl rfl ?_
        refine e_iadd rfl ?_
        refine e_cge_t rfl (Int32.le_refl _) ?_
        refine e_ipush rfl ?_
        exact Eg.ret rfl (by decide) rfl ⟨congrArg (fun z => some (Value.int z)) (show ((-2) : Int32) = aAgain v (nI t) d from by unfold aAgain; rw [if_pos ⟨b5, b12⟩, nI_clamp (by omega), fst_no hno]), rfl⟩
    · replace b12 := yn_0.mp b12
      refine e_ipush rfl ?_
      exact Eg.ret rfl (by decide) rfl ⟨congrArg (fun z => some (Value.int z)) (show ((-1) : Int32) = aAgain v x d from by unfold aAgain; rw [if_neg (by grind)]), rfl⟩
end QV
