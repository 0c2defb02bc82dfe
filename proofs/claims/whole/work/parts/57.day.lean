/-! A DAY that passes, on one side -/
section MQ
variable {X : xX} {h : xH} {sh : List (Nat × Nat)} {I : Nat → Nat → Int32} {L : Nat → Nat → Int64} {R : Nat → Nat → Option Nat} {v : Nat → Nat → Int32} {w s m : Nat}
theorem cn_xu {f k j : Nat} {x : Int32} (h : f ≠ 1) : cn (xu v f k x) j = cn v j := by
  unfold cn; rw [xu_i (Ne.symm h)]
theorem digL_ext {V : Nat → Nat → Int32} {n : Nat} (h1 : V 1 7 = v 1 7) (h : ∀ f k, 20 ≤ f → f ≤ 23 → V f k = v f k) : digL V n = digL v n := by
  refine itN_ext (fun k l hk => ?_)
  unfold ent
  rw [h1, h 20 k (by decide) (by decide), h 21 k (by decide) (by decide), h 22 k (by decide) (by decide), h 23 k (by decide) (by decide)]
theorem digL_day {V : Nat → Nat → Int32} {n : Nat} {x : Int32} (h : V 1 7 ≤ x) : digL (xu V 1 7 x) n = (digL V n).filter (fun y => decide (x ≤ y.2.2.2)) := by
  have e1 : (xu V 1 7 x) 1 7 = x := xu_at
  have e2 : ∀ f k, 20 ≤ f → (xu V 1 7 x) f k = V f k := fun f k hf => xu_i (by omega)
  induction n with
  | zero => rfl
  | succ n ih =>
    have ee : ent (xu V 1 7 x) n = ent V n := by unfold ent; rw [e2 20 n (by decide), e2 21 n (by decide), e2 22 n (by decide), e2 23 n (by decide)]
    by_cases hx : x ≤ V 23 n
    · rw [digL_t (by rw [e1, e2 23 n (by decide)]; exact hx), digL_t (Int32.le_trans h hx), List.filter_append, ih, ee]
      congr 1
      simp [ent, hx]
    · rw [digL_f (by rw [e1, e2 23 n (by decide)]; exact hx), ih]
      by_cases hy : V 1 7 ≤ V 23 n
      · rw [digL_t hy, List.filter_append]
        simp [ent, hx]
      · rw [digL_f hy]
theorem MomH.u13 {J : Nat → Nat → Int32} {j : Nat} {x : Int32} (h : MomH I m v) (gg : J (m + 1) j = x) (ff : ∀ p t, p ≠ m + 1 ∨ t ≠ j → J p t = I p t) : MomH J m (xu v 13 j x) := by
  refine ⟨(ff m 1 (by omega)).trans h.1, (ff m 2 (by omega)).trans h.2.1, fun k hk => ?_⟩
  obtain ⟨a1, a2, a3, a4⟩ := h.2.2 k hk
  by_cases e : k = j
  · subst e
    exact ⟨gg.trans xu_at.symm, (ff (m + 2) k (by omega)).trans (a2.trans (xu_i (by decide)).symm), (ff (m + 3) k (by omega)).trans (a3.trans (xu_i (by decide)).symm), (ff (m + 4) k (by omega)).trans (a4.trans (xu_i (by decide)).symm)⟩
  · exact ⟨(ff (m + 1) k (by omega)).trans (a1.trans (xu_o (by omega)).symm), (ff (m + 2) k (by omega)).trans (a2.trans (xu_o (by omega)).symm), (ff (m + 3) k (by omega)).trans (a3.trans (xu_o (by omega)).symm), (ff (m + 4) k (by omega)).trans (a4.trans (xu_o (by omega)).symm)⟩
theorem MomH.u14 {J : Nat → Nat → Int32} {j : Nat} {x : Int32} (h : MomH I m v) (gg : J (m + 2) j = x) (ff : ∀ p t, p ≠ m + 2 ∨ t ≠ j → J p t = I p t) : MomH J m (xu v 14 j x) := by
  refine ⟨(ff m 1 (by omega)).trans h.1, (ff m 2 (by omega)).trans h.2.1, fun k hk => ?_⟩
  obtain ⟨a1, a2, a3, a4⟩ := h.2.2 k hk
  by_cases e : k = j
  · subst e
    exact ⟨(ff (m + 1) k (by omega)).trans (a1.trans (xu_i (by decide)).symm), gg.trans xu_at.symm, (ff (m + 3) k (by omega)).trans (a3.trans (xu_i (by decide)).symm), (ff (m + 4) k (by omega)).trans (a4.trans (xu_i (by decide)).symm)⟩
  · exact ⟨(ff (m + 1) k (by omega)).trans (a1.trans (xu_o (by omega)).symm), (ff (m + 2) k (by omega)).trans (a2.trans (xu_o (by omega)).symm), (ff (m + 3) k (by omega)).trans (a3.trans (xu_o (by omega)).symm), (ff (m + 4) k (by omega)).trans (a4.trans (xu_o (by omega)).symm)⟩
theorem MomH.u17 {J : Nat → Nat → Int32} {j : Nat} {x : Int32} (h : MomH I m v) (gg : J (m + 3) j = x) (ff : ∀ p t, p ≠ m + 3 ∨ t ≠ j → J p t = I p t) : MomH J m (xu v 17 j x) := by
  refine ⟨(ff m 1 (by omega)).trans h.1, (ff m 2 (by omega)).trans h.2.1, fun k hk => ?_⟩
  obtain ⟨a1, a2, a3, a4⟩ := h.2.2 k hk
  by_cases e : k = j
  · subst e
    exact ⟨(ff (m + 1) k (by omega)).trans (a1.trans (xu_i (by decide)).symm), (ff (m + 2) k (by omega)).trans (a2.trans (xu_i (by decide)).symm), gg.trans xu_at.symm, (ff (m + 4) k (by omega)).trans (a4.trans (xu_i (by decide)).symm)⟩
  · exact ⟨(ff (m + 1) k (by omega)).trans (a1.trans (xu_o (by omega)).symm), (ff (m + 2) k (by omega)).trans (a2.trans (xu_o (by omega)).symm), (ff (m + 3) k (by omega)).trans (a3.trans (xu_o (by omega)).symm), (ff (m + 4) k (by omega)).trans (a4.trans (xu_o (by omega)).symm)⟩
theorem MomH.u18 {J : Nat → Nat → Int32} {j : Nat} {x : Int32} (h : MomH I m v) (gg : J (m + 4) j = x) (ff : ∀ p t, p ≠ m + 4 ∨ t ≠ j → J p t = I p t) : MomH J m (xu v 18 j x) := by
  refine ⟨(ff m 1 (by omega)).trans h.1, (ff m 2 (by omega)).trans h.2.1, fun k hk => ?_⟩
  obtain ⟨a1, a2, a3, a4⟩ := h.2.2 k hk
  by_cases e : k = j
  · subst e
    exact ⟨(ff (m + 1) k (by omega)).trans (a1.trans (xu_i (by decide)).symm), (ff (m + 2) k (by omega)).trans (a2.trans (xu_i (by decide)).symm), (ff (m + 3) k (by omega)).trans (a3.trans (xu_i (by decide)).symm), gg.trans xu_at.symm⟩
  · exact ⟨(ff (m + 1) k (by omega)).trans (a1.trans (xu_o (by omega)).symm), (ff (m + 2) k (by omega)).trans (a2.trans (xu_o (by omega)).symm), (ff (m + 3) k (by omega)).trans (a3.trans (xu_o (by omega)).symm), (ff (m + 4) k (by omega)).trans (a4.trans (xu_o (by omega)).symm)⟩
/-- a ship's day -/
def dstep (g : Nat → Int32) (k : Nat) (V : Nat → Nat → Int32) : Nat → Nat → Int32 := if V 18 k = -1 then (if V 14 k ≤ 0 then xu V 18 k (V 1 7) else xu (xu V 14 k (V 14 k - 1)) 13 k (V 13 k + g k)) else V
def dayW (v : Nat → Nat → Int32) (g : Nat → Int32) : Nat → Nat → Nat → Int32 := itN (dstep g) v
theorem dstep_o {g : Nat → Int32} {k : Nat} {V : Nat → Nat → Int32} {f t : Nat} (h : (f ≠ 13 ∧ f ≠ 14 ∧ f ≠ 18) ∨ t ≠ k) : dstep g k V f t = V f t := by
  unfold dstep
  split
  · split
    · rw [xu_o (by omega)]
    · rw [xu_o (by omega), xu_o (by omega)]
  · rfl
theorem dayW_o {g : Nat → Int32} {n f t : Nat} (h : (f ≠ 13 ∧ f ≠ 14 ∧ f ≠ 18) ∨ n ≤ t) : dayW v g n f t = v f t := by
  induction n with
  | zero => rfl
  | succ n ih =>
    show dstep g n (dayW v g n) f t = _
    rw [dstep_o (by omega), ih (by omega)]
theorem dayW_cn {g : Nat → Int32} {n j : Nat} : cn (dayW v g n) j = cn v j := by
  unfold cn; rw [dayW_o (Or.inl (by decide))]
def dayF (v : Nat → Nat → Int32) (g : Nat → Int32) : Nat → Nat → Int32 := xu (dayW v g (cn v 4)) 1 7 (nI (cn v 7 + 1))
theorem dayF_o {g : Nat → Int32} {f t : Nat} (h : f ≠ 1 ∨ t ≠ 7) : dayF v g f t = dayW v g (cn v 4) f t := xu_o (by omega)
theorem dayF_cn {g : Nat → Int32} {j : Nat} (h : j ≠ 7) : cn (dayF v g) j = cn v j := by
  unfold cn; rw [dayF_o (Or.inr h), dayW_o (Or.inl (by decide))]
theorem dayF_7 {g : Nat → Int32} (h : cn v 7 ≤ 20000) : cn (dayF v g) 7 = cn v 7 + 1 := by
  unfold cn
  rw [show dayF v g 1 7 = nI (cn v 7 + 1) from xu_at, nI_clamp (by omega)]; rfl
theorem cs_isDryR {k : Nat} (hM : MomAt sh R m) (hk : k < 4) : Ec X 1 42 [.ref m, .int (nI k)] (sh, I, L, R) (fun r h' => r = some (.int (yn (¬ I (m + 4) k = -1))) ∧ h' = (sh, I, L, R)) := by
  refine Ec.of (Nat.le_of_ble_eq_true rfl) ?_
  refine e_aload rfl rfl ?_
  refine e_getR rfl hM.1 (hM.2 3 _ rfl).2 ?_
  refine e_iload rfl rfl ?_
  refine e_ialn (t := k) (n := 4) rfl (hM.2 3 _ rfl).1 rfl (by omega) (by decide) ?_
  refine e_ipush rfl ?_
  refine e_ceq_b rfl (fun b7 => ?_) (fun b7 => ?_)
  · refine e_ipush rfl ?_
    exact Eg.ret rfl (by decide) rfl ⟨congrArg (fun z => some (Value.int z)) (yn_f (fun q => q b7)).symm, rfl⟩
  · refine e_ipush rfl ?_
    refine e_goto rfl ?_
    exact Eg.ret rfl (by decide) rfl ⟨congrArg (fun z => some (Value.int z)) (yn_t b7).symm, rfl⟩
theorem cs_passDay {y : Nat} (hM : MomAt sh R m) (hms : R m 0 = some s) (hS : SeaAt sh R s) (hs4 : I s 4 = nI (cn v 4)) (h4 : cn v 4 ≤ 4) (h7 : cn v 7 ≤ 20000) (h9 : cn v 9 ≤ 8) (hv7 : v 1 7 = nI (cn v 7)) (hW : MomV I m v) (hy : sh[y]? = some (20, 4)) (hym : y < m ∨ m + 8 < y) (hsm : s < m ∨ m + 8 < s) : Ec X 2 48 [.ref m, .ref y] (sh, I, L, R) (fun r h' => r = none ∧ ∃ I', h' = (sh, I', L, R) ∧ MomV I' m (dayF v (I y)) ∧ ∀ i k, i < m ∨ m + 8 < i → I' i k = I i k) := by
  obtain ⟨hH, hD⟩ := MomV_iff.mp hW
  refine Ec.of (Nat.le_of_ble_eq_true rfl) ?_
  refine e_ipush rfl ?_
  refine e_istore rfl ?_
  refine Eg.pk [0, 1, 2] [2, 0, 1] rfl (by decide) ?_
  refine up_ind (p := fun j => ∀ J : Nat → Nat → Int32, MomH J m (dayW v (I y) j) → J m 7 = I m 7 → (∀ i k, i < m ∨ m + 4 < i → J i k = I i k) → Eg X xTc 1 48 2 [(0, .ref m), (1, .ref y), (2, .int (nI j))] [] (sh, J, L, R) (fun r h' => r = none ∧ ∃ I', h' = (sh, I', L, R) ∧ MomV I' m (dayF v (I y)) ∧ ∀ i k, i < m ∨ m + 8 < i → I' i k = I i k)) (n := cn v 4) (j := 0) (fun j hj ih => ?_) ?_ (Nat.zero_le _) I hH rfl (fun i k hi => rfl)
  · intro J a1 a2 a3
    obtain ⟨b1, b2, b3, b4⟩ := a1.2.2 j (by rw [dayW_cn]; exact hj)
    have js : J s 4 = nI (cn v 4) := (a3 s 4 (by omega)).trans hs4
    have jy : J y j = I y j := a3 y j (by omega)
    have jd : J m 1 = (dayW v (I y) j) 1 7 := by rw [a1.1, dayW_cn, dayW_o (Or.inl (by decide)), hv7]
    refine e_iload rfl rfl ?_
    refine e_aload rfl rfl ?_
    refine e_getR rfl hM.1 hms ?_
    refine e_getIv rfl hS.1 js ?_
    refine e_cge_f rfl (nI_ge hj (by omega)) ?_
    refine e_aload rfl rfl ?_
    refine e_iload rfl rfl ?_
    refine Eg.p2 rfl (by decide) (by decide) rfl (Nat.le_of_ble_eq_true rfl) (xrcv_of rfl hM.1 rfl) ((cs_isDryR hM (k := j) (by omega)).mono (by decide)) ?_
    refine e_ifeq_b rfl (fun b18 => ?_) (fun b18 => ?_)
    · replace b18 := yn_0.mp b18
      refine e_aload rfl rfl ?_
      refine e_getR rfl hM.1 (hM.2 1 _ rfl).2 ?_
      refine e_iload rfl rfl ?_
      refine e_ialv (t := j) (n := 4) rfl (hM.2 1 _ rfl).1 rfl (by omega) (by decide) b2 ?_
      refine e_ifgt_b rfl (fun b30 => ?_) (fun b30 => ?_)
      · refine e_aload rfl rfl ?_
        refine e_getR rfl hM.1 (hM.2 1 _ rfl).2 ?_
        refine e_iload rfl rfl ?_
        refine e_dup2 rfl ?_
        refine e_ialv (t := j) (n := 4) rfl (hM.2 1 _ rfl).1 rfl (by omega) (by decide) b2 ?_
        refine e_ipush rfl ?_
        refine e_isub rfl ?_
        refine e_iasJ (t := j) (n := 4) rfl (hM.2 1 _ rfl).1 rfl (by omega) (by decide) (fun J1 g1 f1 => ?_)
        refine e_aload rfl rfl ?_
        refine e_getR rfl hM.1 (hM.2 0 _ rfl).2 ?_
        refine e_iload rfl rfl ?_
        refine e_dup2 rfl ?_
        refine e_ialv (t := j) (n := 4) rfl (hM.2 0 _ rfl).1 rfl (by omega) (by decide) ((f1 (m + 1) j (Or.inl (by omega))).trans b1) ?_
        refine e_aload rfl rfl ?_
        refine e_iload rfl rfl ?_
        refine e_ialv (t := j) (n := 4) rfl hy rfl (by omega) (by decide) ((f1 y j (Or.inl (by omega))).trans jy) ?_
        refine e_iadd rfl ?_
        refine e_iasJ (t := j) (n := 4) rfl (hM.2 0 _ rfl).1 rfl (by omega) (by decide) (fun J2 g2 f2 => ?_)
        refine e_iinc rfl rfl ?_
        refine e_goto rfl ?_
        refine Eg.pk [0, 1, 2] [2, 0, 1] rfl (by decide) ?_
        rw [nI_1]
        have e : (dayW v (I y) (j + 1)) = xu (xu (dayW v (I y) j) 14 j ((dayW v (I y) j) 14 j - 1)) 13 j ((dayW v (I y) j) 13 j + I y j) := (if_pos (b4.symm.trans (Decidable.not_not.mp b18))).trans (if_neg (Int32.not_le.mpr b30))
        exact ih J2 (by rw [e]; exact (a1.u14 g1 f1).u13 g2 f2) ((f2 m 7 (by omega)).trans ((f1 m 7 (by omega)).trans a2)) (fun i k hi => (f2 i k (by omega)).trans ((f1 i k (by omega)).trans (a3 i k hi)))
      · refine e_aload rfl rfl ?_
        refine e_getR rfl hM.1 (hM.2 3 _ rfl).2 ?_
        refine e_iload rfl rfl ?_
        refine e_aload rfl rfl ?_
        refine e_getIv rfl hM.1 jd ?_
        refine e_iasJ (t := j) (n := 4) rfl (hM.2 3 _ rfl).1 rfl (by omega) (by decide) (fun J3 g3 f3 => ?_)
        refine e_goto rfl ?_
        refine e_iinc rfl rfl ?_
        refine e_goto rfl ?_
        refine Eg.pk [0, 1, 2] [2, 0, 1] rfl (by decide) ?_
        rw [nI_1]
        have e : (dayW v (I y) (j + 1)) = xu (dayW v (I y) j) 18 j ((dayW v (I y) j) 1 7) := (if_pos (b4.symm.trans (Decidable.not_not.mp b18))).trans (if_pos (Int32.not_lt.mp b30))
        exact ih J3 (by rw [e]; exact a1.u18 g3 f3) ((f3 m 7 (by omega)).trans a2) (fun i k hi => (f3 i k (by omega)).trans (a3 i k hi))
    · replace b18 := yn_n0.mp b18
      refine e_goto rfl ?_
      refine e_iinc rfl rfl ?_
      refine e_goto rfl ?_
      refine Eg.pk [0, 1, 2] [2, 0, 1] rfl (by decide) ?_
      rw [nI_1]
      have e : (dayW v (I y) (j + 1)) = (dayW v (I y) j) := if_neg (fun q => b18 (b4.trans q))
      exact ih J (by rw [e]; exact a1) a2 a3
  · intro J a1 a2 a3
    have js : J s 4 = nI (cn v 4) := (a3 s 4 (by omega)).trans hs4
    have j7 : J m 1 = nI (cn v 7) := by rw [a1.1, dayW_cn]
    refine e_iload rfl rfl ?_
    refine e_aload rfl rfl ?_
    refine e_getR rfl hM.1 hms ?_
    refine e_getIv rfl hS.1 js ?_
    refine e_cge_t rfl (Int32.le_refl _) ?_
    refine e_aload rfl rfl ?_
    refine e_dupr rfl ?_
    refine e_getIv rfl hM.1 j7 ?_
    refine e_ipush rfl ?_
    refine e_iadd rfl ?_
    rw [show (nI (cn v 7)) + 1 = nI (cn v 7 + 1) from nI_1 _]
    refine e_putIJ rfl hM.1 (fun J1 g1 f1 => ?_)
    refine e_aload rfl rfl ?_
    refine Eg.c1 rfl (by decide) (by decide) rfl (Nat.le_of_ble_eq_true rfl) (xrcv_of rfl hM.1 rfl) ((cs_dropOld hM (l := (digL v (cn v 9))) (e := cn v 7 + 1) (hD.fr ((f1 m 7 (by omega)).trans a2) (fun i k h1 h2 => (f1 i k (by omega)).trans (a3 i k (by omega)))) (by rw [digL_len]; exact Nat.le_trans dgn_le h9) g1).mono (by decide)) (fun r1 h1 hq => ?_)
    obtain ⟨rfl, I', rfl, c1, c2, c3⟩ := hq
    have hH2 : MomH I' m (dayF v (I y)) := by
      refine ⟨?_, ?_, fun k hk => ?_⟩
      · rw [dayF_7 h7]; exact (c2 1 (by decide)).trans g1
      · rw [dayF_cn (by decide)]; rw [c2 2 (by decide), f1 m 2 (by omega), a1.2.1, dayW_cn]
      · rw [dayF_cn (by decide)] at hk
        rw [dayF_o (Or.inl (by decide)), dayF_o (Or.inl (by decide)), dayF_o (Or.inl (by decide)), dayF_o (Or.inl (by decide)), c3 (m + 1) k (by omega), c3 (m + 2) k (by omega), c3 (m + 3) k (by omega), c3 (m + 4) k (by omega), f1 (m + 1) k (by omega), f1 (m + 2) k (by omega), f1 (m + 3) k (by omega), f1 (m + 4) k (by omega)]
        exact a1.2.2 k (by rw [dayW_cn]; exact hk)
    have hD2 : DigR I' m (digL (dayF v (I y)) (cn (dayF v (I y)) 9)) := by
      have e7 : (dayW v (I y) (cn v 4)) 1 7 = v 1 7 := dayW_o (Or.inl (by decide))
      have e1 : digL (dayF v (I y)) (cn v 9) = (digL (dayW v (I y) (cn v 4)) (cn v 9)).filter (fun x => decide (nI (cn v 7 + 1) ≤ x.2.2.2)) := digL_day (by rw [e7, hv7]; exact nI_le (by omega) (by omega))
      have e2 : digL (dayW v (I y) (cn v 4)) (cn v 9) = digL v (cn v 9) := digL_ext e7 (fun f k h1 h2 => dayW_o (Or.inl (by omega)))
      rw [dayF_cn (by decide), e1, e2]; exact c1
    exact Eg.ret rfl (by decide) rfl ⟨rfl, I', rfl, MomV_iff.mpr ⟨hH2, hD2⟩, fun i k hi => (c3 i k (by omega)).trans ((f1 i k (by omega)).trans (a3 i k (by omega)))⟩
end MQ
