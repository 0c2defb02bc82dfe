/-! dig -/
section DG
variable {X : xX} {h : xH} {sh : List (Nat × Nat)} {I : Nat → Nat → Int32} {L : Nat → Nat → Int64} {R : Nat → Nat → Option Nat} {v : Nat → Nat → Int32} {w s m : Nat}
def xu4 (V : Nat → Nat → Int32) (n : Nat) (a b c d : Int32) : Nat → Nat → Int32 := xu (xu (xu (xu V 20 n a) 21 n b) 22 n c) 23 n d
theorem xu4_o {V : Nat → Nat → Int32} {n f k : Nat} {a b c d : Int32} (h : f < 20 ∨ 23 < f ∨ k ≠ n) : xu4 V n a b c d f k = V f k := by
  unfold xu4
  rw [xu_o (by omega), xu_o (by omega), xu_o (by omega), xu_o (by omega)]
theorem xu4_at {V : Nat → Nat → Int32} {n : Nat} {a b c d : Int32} : ent (xu4 V n a b c d) n = (a, b, c, d) := by
  unfold ent xu4
  rw [xu_i (by decide), xu_i (by decide), xu_i (by decide), xu_at, xu_i (by decide), xu_i (by decide), xu_at, xu_i (by decide), xu_at, xu_at]
def drpW (v : Nat → Nat → Int32) : Nat → Nat → Nat → Int32 := itN (fun k V => if v 1 7 ≤ v 23 k then xu4 V (dgn v k) (v 20 k) (v 21 k) (v 22 k) (v 23 k) else V) v
def drpV (v : Nat → Nat → Int32) : Nat → Nat → Int32 := xu (drpW v (cn v 9)) 1 9 (nI (dgn v (cn v 9)))
def digA (v : Nat → Nat → Int32) (c b d : Int32) : Nat → Nat → Int32 := xu (xu4 v (cn v 9) c b (v 1 7) (v 1 7 + d - 1)) 1 9 (nI (cn v 9 + 1))
def digF (v : Nat → Nat → Int32) (c b d : Int32) : Nat → Nat → Int32 := digA (if cn v 9 = 8 then drpV v else v) c b d
theorem drpW_t {n : Nat} (h : v 1 7 ≤ v 23 n) : drpW v (n + 1) = xu4 (drpW v n) (dgn v n) (v 20 n) (v 21 n) (v 22 n) (v 23 n) := if_pos h
theorem drpW_f {n : Nat} (h : ¬ v 1 7 ≤ v 23 n) : drpW v (n + 1) = drpW v n := if_neg h
theorem drpW_o {n f k : Nat} (h : f < 20 ∨ 23 < f ∨ dgn v n ≤ k) : drpW v n f k = v f k := by
  induction n with
  | zero => rfl
  | succ n ih =>
    show (if v 1 7 ≤ v 23 n then xu4 (drpW v n) (dgn v n) (v 20 n) (v 21 n) (v 22 n) (v 23 n) else drpW v n) f k = _
    by_cases hl : v 1 7 ≤ v 23 n
    · rw [if_pos hl]
      rw [dgn_t hl] at h
      rw [xu4_o (by omega), ih (by omega)]
    · rw [if_neg hl]
      rw [dgn_f hl] at h
      exact ih h
theorem drpW_at {n k : Nat} (hk : k < n) (hl : v 1 7 ≤ v 23 k) : ent (drpW v n) (dgn v k) = ent v k := by
  induction n with
  | zero => omega
  | succ n ih =>
    by_cases hc : k = n
    · subst hc
      rw [drpW_t hl]
      exact xu4_at
    · have ih := ih (by omega)
      by_cases h2 : v 1 7 ≤ v 23 n
      · rw [drpW_t h2, ← ih]
        have hlt := dgn_lt (v := v) (k := k) (n := n) (by omega) hl
        unfold ent
        rw [xu4_o (by omega), xu4_o (by omega), xu4_o (by omega), xu4_o (by omega)]
      · rw [drpW_f h2]; exact ih
theorem ent_23 {V : Nat → Nat → Int32} {i k : Nat} (h : ent V i = ent v k) : V 23 i = v 23 k := congrArg (fun q => q.2.2.2) h
theorem digL_drop {V : Nat → Nat → Int32} {n : Nat} (h7 : V 1 7 = v 1 7) (h : ∀ k, k < n → v 1 7 ≤ v 23 k → ent V (dgn v k) = ent v k) : digL V (dgn v n) = digL v n := by
  induction n with
  | zero =>
    have e0 : dgn v 0 = 0 := rfl
    have e1 : digL V 0 = [] := rfl
    have e2 : digL v 0 = [] := rfl
    rw [e0, e1, e2]
  | succ n ih =>
    have ih := ih (fun k hk => h k (by omega))
    by_cases hl : v 1 7 ≤ v 23 n
    · have e := h n (by omega) hl
      rw [dgn_t hl, digL_t hl, digL_t (by rw [h7, ent_23 e]; exact hl), ih, e]
    · rw [dgn_f hl, digL_f hl, ih]
theorem digL_xu9 {V : Nat → Nat → Int32} {n : Nat} {x : Int32} : digL (xu V 1 9 x) n = digL V n := digL_ext (xu_o (Or.inr (by decide))) (fun f k h1 h2 => xu_o (Or.inl (by omega)))
theorem digA_L {c b d : Int32} (hd : v 1 7 ≤ v 1 7 + d - 1) : digL (digA v c b d) (cn v 9 + 1) = digL v (cn v 9) ++ [(c, b, v 1 7, v 1 7 + d - 1)] := by
  unfold digA
  rw [digL_xu9]
  have e7 : (xu4 v (cn v 9) c b (v 1 7) (v 1 7 + d - 1)) 1 7 = v 1 7 := xu4_o (by omega)
  have ee := xu4_at (V := v) (n := cn v 9) (a := c) (b := b) (c := v 1 7) (d := v 1 7 + d - 1)
  have e23 : (xu4 v (cn v 9) c b (v 1 7) (v 1 7 + d - 1)) 23 (cn v 9) = v 1 7 + d - 1 := congrArg (fun q => q.2.2.2) ee
  rw [digL_t (by rw [e7, e23]; exact hd), ee]
  congr 1
  unfold digL
  refine itN_ext (fun k l hk => ?_)
  have eo : ∀ f, (xu4 v (cn v 9) c b (v 1 7) (v 1 7 + d - 1)) f k = v f k := fun f => xu4_o (by omega)
  unfold ent
  rw [e7, eo 20, eo 21, eo 22, eo 23]
theorem drpV_cn {j : Nat} (hj : j ≠ 9) : cn (drpV v) j = cn v j := by
  unfold cn drpV; rw [xu_o (Or.inr hj), drpW_o (by omega)]
theorem drpV_9 (h9 : cn v 9 ≤ 8) : cn (drpV v) 9 = dgn v (cn v 9) := by
  have := dgn_le (v := v) (n := cn v 9)
  unfold cn
  rw [show drpV v 1 9 = nI (dgn v (cn v 9)) from xu_at, nI_clamp (by omega)]; rfl
theorem drpV_7 : drpV v 1 7 = v 1 7 := by unfold drpV; rw [xu_o (Or.inr (by decide)), drpW_o (by omega)]
theorem drpV_L (h9 : cn v 9 ≤ 8) : digL (drpV v) (cn (drpV v) 9) = digL v (cn v 9) := by
  rw [drpV_9 h9]
  unfold drpV
  rw [digL_xu9]
  exact digL_drop (drpW_o (by omega)) (fun k hk hl => drpW_at hk hl)
theorem digA_cn {c b d : Int32} {j : Nat} (hj : j ≠ 9) : cn (digA v c b d) j = cn v j := by
  unfold cn digA; rw [xu_o (Or.inr hj), xu4_o (by omega)]
theorem digA_9 {c b d : Int32} (h9 : cn v 9 < 8) : cn (digA v c b d) 9 = cn v 9 + 1 := by
  unfold cn
  rw [show digA v c b d 1 9 = nI (cn v 9 + 1) from xu_at, nI_clamp (by omega)]; rfl
/-- the view before the new digging -/
def digB (v : Nat → Nat → Int32) : Nat → Nat → Int32 := if cn v 9 = 8 then drpV v else v
theorem digB_s (hw : Wf v) (h8 : dgn v (cn v 9) < 8) : cn (digB v) 9 < 8 ∧ digB v 1 7 = v 1 7 ∧ (∀ j, j ≠ 9 → cn (digB v) j = cn v j) ∧ digL (digB v) (cn (digB v) 9) = digL v (cn v 9) ∧ (∀ f k, f < 20 ∨ 23 < f ∨ 8 ≤ k → (f ≠ 1 ∨ k ≠ 9) → digB v f k = v f k) := by
  have hb := hw.1.2
  unfold digB
  by_cases h : cn v 9 = 8
  · rw [if_pos h]
    refine ⟨by rw [drpV_9 (by omega)]; exact h8, drpV_7, fun j hj => drpV_cn hj, drpV_L (by omega), fun f k h1 h2 => ?_⟩
    unfold drpV
    rw [xu_o (by omega), drpW_o (by omega)]
  · rw [if_neg h]
    exact ⟨by omega, rfl, fun _ _ => rfl, rfl, fun _ _ _ _ => rfl⟩
theorem digF_agr {c b d : Int32} (hw : Wf v) (h8 : dgn v (cn v 9) < 8) : agr (digF v c b d) v := by
  intro f i h
  rw [slot_iff] at h
  obtain ⟨b1, b2, b3, b4, b5⟩ := digB_s hw h8
  show digA (digB v) c b d f i = _
  unfold digA
  rw [xu_o (by omega), xu4_o (by omega), b5 f i (by omega) (by omega)]
theorem digF_o {c b d : Int32} {f i : Nat} (hw : Wf v) (h8 : dgn v (cn v 9) < 8) (h : f < 20) (h2 : f ≠ 1 ∨ i ≠ 9) : digF v c b d f i = v f i := by
  obtain ⟨b1, b2, b3, b4, b5⟩ := digB_s hw h8
  show digA (digB v) c b d f i = _
  unfold digA
  rw [xu_o (by omega), xu4_o (by omega), b5 f i (by omega) (by omega)]
theorem digF_wf {c b d : Int32} (hw : Wf v) (h8 : dgn v (cn v 9) < 8) : Wf (digF v c b d) := by
  have hb := hw.1.2
  obtain ⟨b1, b2, b3, b4, b5⟩ := digB_s hw h8
  refine hw.mk (digF_agr hw h8) ⟨cn v 7, by omega, (digF_o hw h8 (by decide) (by omega)).trans (hw.n (by decide))⟩ ⟨cn v 8, by omega, (digF_o hw h8 (by decide) (by omega)).trans (hw.n (by decide))⟩ ⟨cn (digB v) 9 + 1, by omega, show xu (xu4 (digB v) (cn (digB v) 9) c b (digB v 1 7) (digB v 1 7 + d - 1)) 1 9 (nI (cn (digB v) 9 + 1)) 1 9 = _ from xu_at⟩ (fun j hj => ?_)
  rw [digF_o hw h8 (by decide) (by omega), digF_o hw h8 (by decide) (by omega)]
  exact hw.ships j hj
theorem day_le {e : Nat} {d : Int32} (he : e ≤ 20000) (hd : ¬ (d < 1 ∨ 30 < d)) : nI e ≤ nI e + d - 1 := by
  obtain ⟨t, ht, ed⟩ := nI_of2 (x := d) (M := 30) (n := 30) (by decide) (fun q => hd (Or.inl (by
    rw [Int32.lt_iff_toInt_lt] at q ⊢
    have a1 : (0 : Int32).toInt = 0 := by decide
    have a2 : (1 : Int32).toInt = 1 := by decide
    omega))) (Int32.not_lt.mp (fun q => hd (Or.inr q)))
  subst ed
  have h1 : 1 ≤ t := by
    apply Decidable.byContradiction; intro hc
    exact hd (Or.inl (nI_lt (a := t) (b := 1) (by omega) (by decide)))
  rw [nI_add]
  show nI e ≤ nI (e + t) - nI 1
  rw [nI_sub (by omega)]
  exact nI_le (by omega) (by omega)
theorem MomV.dig {I' : Nat → Nat → Int32} {c b d : Int32} (hW : MomV I m v) (hw : Wf v) (h8 : dgn v (cn v 9) < 8) (hd : ¬ (d < 1 ∨ 30 < d)) (hD : DigR I' m (digL v (cn v 9) ++ [(c, b, nI (cn v 7), nI (cn v 7) + d - 1)])) (h1 : ∀ k, k ≠ 7 → I' m k = I m k) (h2 : ∀ i k, m < i → i < m + 5 → I' i k = I i k) : MomV I' m (digF v c b d) := by
  have hb := hw.1.2
  obtain ⟨b1, b2, b3, b4, b5⟩ := digB_s hw h8
  have e7 : v 1 7 = nI (cn v 7) := hw.n (by decide)
  have hc : ∀ j, j ≠ 9 → cn (digF v c b d) j = cn v j := fun j hj => (digA_cn (v := digB v) hj).trans (b3 j hj)
  refine MomV_iff.mpr ⟨⟨?_, ?_, fun k hk => ?_⟩, ?_⟩
  · rw [hc 7 (by decide)]; exact (h1 1 (by decide)).trans hW.1
  · rw [hc 8 (by decide)]; exact (h1 2 (by decide)).trans hW.2.1
  · rw [hc 4 (by decide)] at hk
    rw [digF_o hw h8 (by decide) (by omega), digF_o hw h8 (by decide) (by omega), digF_o hw h8 (by decide) (by omega), digF_o hw h8 (by decide) (by omega), h2 _ _ (by omega) (by omega), h2 _ _ (by omega) (by omega), h2 _ _ (by omega) (by omega), h2 _ _ (by omega) (by omega)]
    exact hW.2.2.1 k hk
  · have e : digL (digF v c b d) (cn (digF v c b d) 9) = digL v (cn v 9) ++ [(c, b, nI (cn v 7), nI (cn v 7) + d - 1)] := by
      show digL (digA (digB v) c b d) (cn (digA (digB v) c b d) 9) = _
      rw [digA_9 b1, digA_L (by rw [b2, e7]; exact day_le (by omega) hd), b4, b2, e7]
    rw [e]; exact hD
def gDig (v : Nat → Nat → Int32) (x b d : Int32) : Prop := ¬ (x < 0 ∨ nI (cn v 0) ≤ x) ∧ ¬ (b < 1 ∨ 20 < b) ∧ ¬ (d < 1 ∨ 30 < d) ∧ dgn v (cn v 9) < 8
theorem cf_dig {P : Nat → Int32} {a y : Nat} (hq : AQ sh I R w s y v P a) {x b d : Int32} : Ec X 4 150 [.ref 0, .int x, .int b, .int d] (sh, I, L, R) (fun r h' => (gDig v x b d ∧ r = some (.int (lv (digF v x b d) x.toNatClampNeg (nI (cn v 7)))) ∧ ACT sh I L R w s y (digF v x b d) (remP v P a) (remB a + 1) h') ∨ (¬ gDig v x b d ∧ r = some (.int (-1)) ∧ h' = (sh, I, L, R))) := by
  obtain ⟨h0, r7, hWd, rm, hM, hms, hS, hV, hU, hw, hW⟩ := hq.cq
  obtain ⟨-, -, r12, hy, hw0, hwy, hsw, hR, hA, -⟩ := hq
  have hb := hw.1.2
  have hdl := dgn_le (v := v) (n := cn v 9)
  refine Ec.of (Nat.le_of_ble_eq_true rfl) ?_
  refine e_aload rfl rfl ?_
  refine e_getR rfl h0 r7 ?_
  refine e_getR rfl hWd rm ?_
  refine e_astore rfl ?_
  refine e_aload rfl rfl ?_
  refine e_getR rfl hM.1 hms ?_
  refine e_iload rfl rfl ?_
  refine Eg.p2 rfl (by decide) (by decide) rfl (Nat.le_of_ble_eq_true rfl) (xrcv_of rfl hS.1 rfl) ((cs_hasCellV hS hV).mono (by decide)) ?_
  refine e_ifeq_b rfl (fun b18 => ?_) (fun b18 => ?_)
  · replace b18 := yn_0.mp b18
    refine e_ipush rfl ?_
    exact Eg.ret rfl (by decide) rfl (Or.inr ⟨fun q => b18 q.1, rfl, rfl⟩)
  · replace b18 := yn_n0.mp b18
    refine e_iload rfl rfl ?_
    refine e_ipush rfl ?_
    refine e_ipush rfl ?_
    refine Eg.p3 rfl (by decide) (by decide) rfl (Nat.le_of_ble_eq_true rfl) (xrcv_ofs (Or.inl rfl)) (cs_withinY.mono (by decide)) ?_
    refine e_ifeq_b rfl (fun b28 => ?_) (fun b28 => ?_)
    · replace b28 := yn_0.mp b28
      refine e_ipush rfl ?_
      exact Eg.ret rfl (by decide) rfl (Or.inr ⟨fun q => b28 q.2.1, rfl, rfl⟩)
    · replace b28 := yn_n0.mp b28
      refine e_iload rfl rfl ?_
      refine e_ipush rfl ?_
      refine e_ipush rfl ?_
      refine Eg.p3 rfl (by decide) (by decide) rfl (Nat.le_of_ble_eq_true rfl) (xrcv_ofs (Or.inl rfl)) (cs_withinY.mono (by decide)) ?_
      refine e_ifne_b rfl (fun b38 => ?_) (fun b38 => ?_)
      · replace b38 := yn_n0.mp b38
        refine e_aload rfl rfl ?_
        refine e_getIv rfl hM.1 hW.2.2.2.1 ?_
        refine e_ipush rfl ?_
        refine e_clt_b rfl (fun b50 => ?_) (fun b50 => ?_)
        · have b50 : dgn v (cn v 9) < 8 := (nI_lti (b := 8) (by omega) (by decide)).mp b50
          obtain ⟨t, ht, et⟩ := nI_get b18 (by omega)
          subst et
          refine e_aload rfl rfl ?_
          refine e_getR rfl h0 r7 ?_
          refine Eg.c1 rfl (by decide) (by decide) rfl (Nat.le_of_ble_eq_true rfl) (xrcv_of rfl hWd rfl) ((cs_remember hA hw).mono (by decide)) (fun r1 h1 hq => ?_)
          obtain ⟨rfl, I1, R1, rfl, hA1, i1, i1w, r1⟩ := hq
          have hS1 := hS.frR (R' := R1) (fun k _ => r1 s k (by omega) (by omega))
          have hV1 := hV.fr (I' := I1) (fun i k h1 h2 => i1 i k (by omega))
          refine e_aload rfl rfl ?_
          refine e_iload rfl rfl ?_
          refine e_iload rfl rfl ?_
          refine e_iload rfl rfl ?_
          refine Eg.c4 rfl (by decide) (by decide) rfl (Nat.le_of_ble_eq_true rfl) (xrcv_of rfl hM.1 rfl) ((cs_addDig (I := I1) (R := R1) (m := w + 12) hA1.2.1 (l := digL v (cn v 9)) (e := cn v 7) (c := nI t) (b := b) (d := d) (MomV_iff.mp hA1.2.2.2.1).2 (by rw [digL_len]; omega) hA1.2.2.2.1.1).mono (by decide)) (fun r1 h1 hq => ?_)
          obtain ⟨rfl, I2, rfl, hD2, i2, i2o⟩ := hq
          have hW2 : MomV I2 (w + 12) (digF v (nI t) b d) := hA1.2.2.2.1.dig hw b50 b38 hD2 i2 (fun i k h1 h2 => i2o i k (by omega))
          have hV2 : SeaV I2 s (digF v (nI t) b d) := (hV1.fr (fun i k h1 h2 => i2o i k (by omega))).ex (digF_agr hw b50)
          have hw2 := digF_wf (c := nI t) (b := b) (d := d) hw b50
          refine e_aload rfl rfl ?_
          refine e_iload rfl rfl ?_
          refine e_aload rfl rfl ?_
          refine e_getIv rfl hM.1 ((i2 1 (by decide)).trans hA1.2.2.2.1.1) ?_
          refine Eg.p3 rfl (by decide) (by decide) rfl (Nat.le_of_ble_eq_true rfl) (xrcv_of rfl hM.1 rfl) ((cs_level (I := I2) (R := R1) (v := digF v (nI t) b d) (m := w + 12) hS1 hV2 hw2 hA1.2.1 hA1.2.2.1 hW2 (c := t) (by omega)).mono (by decide)) ?_
          refine Eg.ret rfl (by decide) rfl (Or.inl ⟨⟨b18, b28, b38, b50⟩, by rw [nI_clamp (by omega)], ?_⟩)
          exact ACT.of hA1 (digF_agr hw b50) hW2 (fun i k h1 => i2o i k (by omega)) (fun i k h1 h2 => i1 i k (by omega)) (fun q k h1 => r1 q k (by omega) (by omega))
        · have b50 : ¬ dgn v (cn v 9) < 8 := fun q => b50 (nI_lt (b := 8) q (by decide))
          refine e_ipush rfl ?_
          exact Eg.ret rfl (by decide) rfl (Or.inr ⟨fun q => b50 q.2.2.2, rfl, rfl⟩)
      · replace b38 := yn_0.mp b38
        refine e_ipush rfl ?_
        exact Eg.ret rfl (by decide) rfl (Or.inr ⟨fun q => b38 q.2.2.1, rfl, rfl⟩)
end DG
