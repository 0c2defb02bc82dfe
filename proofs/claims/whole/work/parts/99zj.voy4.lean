/-! voyage: the class, its pilot -/
section VC1x
variable {X : xX} {h : xH} {sh : List (Nat × Nat)} {I : Nat → Nat → Int32} {L : Nat → Nat → Int64} {R : Nat → Nat → Option Nat} {v : Nat → Nat → Int32} {w s m : Nat}
variable {sp t qa qb qc qd : Nat}
/-- the pilot's rows -/
def PA (sh : List (Nat × Nat)) (R : Nat → Nat → Option Nat) (qa qb qc qd : Nat) : Prop := sh[250]? = some (4, 10) ∧ (sh[251]? = some (20, 12) ∧ R 250 3 = some 251) ∧ (sh[252]? = some (20, 12) ∧ R 250 4 = some 252) ∧ (sh[253]? = some (20, 12) ∧ R 250 5 = some 253) ∧ (sh[qa]? = some (20, 12) ∧ R 250 6 = some qa) ∧ (sh[qb]? = some (20, 12) ∧ R 250 7 = some qb) ∧ (sh[qc]? = some (20, 372) ∧ R 250 8 = some qc) ∧ (sh[qd]? = some (20, 372) ∧ R 250 9 = some qd) ∧ (qa = 254 ∧ qb = 255 ∨ qa = 255 ∧ qb = 254) ∧ (qc = 256 ∧ qd = 257 ∨ qc = 257 ∧ qd = 256)
/-- the moment and its sea -/
def MX (sh : List (Nat × Nat)) (I : Nat → Nat → Int32) (R : Nat → Nat → Option Nat) (m s : Nat) (v : Nat → Nat → Int32) : Prop := MomAt sh R m ∧ R m 0 = some s ∧ SeaAt sh R s ∧ SeaV I s v ∧ MomV I m v ∧ (m + 8 < 250 ∨ 257 < m) ∧ (s + 12 < 250 ∨ 257 < s)
/-- the pilot looks at a ship of the moment -/
def CX (sh : List (Nat × Nat)) (I : Nat → Nat → Int32) (R : Nat → Nat → Option Nat) (m s : Nat) (v : Nat → Nat → Int32) (sp qa qb qc qd : Nat) : Prop := PA sh R qa qb qc qd ∧ MX sh I R m s v ∧ R 250 0 = some m ∧ I 250 1 = nI sp ∧ I 250 2 = nI (vT v sp)
theorem MX.fr {J : Nat → Nat → Int32} {R' : Nat → Nat → Option Nat} (h : MX sh I R m s v) (e : ∀ i k, i < 250 ∨ 257 < i → J i k = I i k) (eR : ∀ i k, i ≠ 250 → R' i k = R i k) : MX sh J R' m s v := by
  obtain ⟨h1x, h2x, h3x, h4x, h5x, h6x, h7x⟩ := h
  exact ⟨h1x.frR (fun k _ => eR m k (by omega)), (eR m 0 (by omega)).trans h2x, h3x.frR (fun k _ => eR s k (by omega)), h4x.fr (fun i k q1x q2x => e i k (by omega)), h5x.fr (fun i k q1x q2x => e i k (by omega)), h6x, h7x⟩
theorem CX.fr {J : Nat → Nat → Int32} (h : CX sh I R m s v sp qa qb qc qd) (e : ∀ i k, i ≤ 250 ∨ 257 < i → J i k = I i k) : CX sh J R m s v sp qa qb qc qd :=
  ⟨h.1, h.2.1.fr (fun i k q => e i k (by omega)) (fun _ _ _ => rfl), h.2.2.1, (e 250 1 (by omega)).trans h.2.2.2.1, (e 250 2 (by omega)).trans h.2.2.2.2⟩
theorem PA.sw6 (h : PA sh R qa qb qc qd) : PA sh (xu (xu R 250 6 (some qb)) 250 7 (some qa)) qb qa qc qd := by
  obtain ⟨h0x, h1x, h2x, h3x, h4x, h5x, h6x, h7x, h8x, h9x⟩ := h
  refine ⟨h0x, ⟨h1x.1, ?_⟩, ⟨h2x.1, ?_⟩, ⟨h3x.1, ?_⟩, ⟨h5x.1, ?_⟩, ⟨h4x.1, xu_at⟩, ⟨h6x.1, ?_⟩, ⟨h7x.1, ?_⟩, by omega, h9x⟩
  · rw [xu_o (by decide), xu_o (by decide)]; exact h1x.2
  · rw [xu_o (by decide), xu_o (by decide)]; exact h2x.2
  · rw [xu_o (by decide), xu_o (by decide)]; exact h3x.2
  · rw [xu_o (by decide)]; exact xu_at
  · rw [xu_o (by decide), xu_o (by decide)]; exact h6x.2
  · rw [xu_o (by decide), xu_o (by decide)]; exact h7x.2
theorem PA.sw8 (h : PA sh R qa qb qc qd) : PA sh (xu (xu R 250 8 (some qd)) 250 9 (some qc)) qa qb qd qc := by
  obtain ⟨h0x, h1x, h2x, h3x, h4x, h5x, h6x, h7x, h8x, h9x⟩ := h
  refine ⟨h0x, ⟨h1x.1, ?_⟩, ⟨h2x.1, ?_⟩, ⟨h3x.1, ?_⟩, ⟨h4x.1, ?_⟩, ⟨h5x.1, ?_⟩, ⟨h7x.1, ?_⟩, ⟨h6x.1, xu_at⟩, h8x, by omega⟩
  · rw [xu_o (by decide), xu_o (by decide)]; exact h1x.2
  · rw [xu_o (by decide), xu_o (by decide)]; exact h2x.2
  · rw [xu_o (by decide), xu_o (by decide)]; exact h3x.2
  · rw [xu_o (by decide), xu_o (by decide)]; exact h4x.2
  · rw [xu_o (by decide), xu_o (by decide)]; exact h5x.2
  · rw [xu_o (by decide)]; exact xu_at
theorem PA.m0 (h : PA sh R qa qb qc qd) {n : Nat} : PA sh (xu R 250 0 (some n)) qa qb qc qd := by
  obtain ⟨h0x, h1x, h2x, h3x, h4x, h5x, h6x, h7x, h8x, h9x⟩ := h
  exact ⟨h0x, ⟨h1x.1, (xu_o (by decide)).trans h1x.2⟩, ⟨h2x.1, (xu_o (by decide)).trans h2x.2⟩, ⟨h3x.1, (xu_o (by decide)).trans h3x.2⟩, ⟨h4x.1, (xu_o (by decide)).trans h4x.2⟩, ⟨h5x.1, (xu_o (by decide)).trans h5x.2⟩, ⟨h6x.1, (xu_o (by decide)).trans h6x.2⟩, ⟨h7x.1, (xu_o (by decide)).trans h7x.2⟩, h8x, h9x⟩
theorem CX.sw6 (h : CX sh I R m s v sp qa qb qc qd) : CX sh I (xu (xu R 250 6 (some qb)) 250 7 (some qa)) m s v sp qb qa qc qd :=
  ⟨h.1.sw6, h.2.1.fr (fun _ _ _ => rfl) (fun i k q => by rw [xu_o (Or.inl q), xu_o (Or.inl q)]), by rw [xu_o (by decide), xu_o (by decide)]; exact h.2.2.1, h.2.2.2⟩
theorem CX.sw8 (h : CX sh I R m s v sp qa qb qc qd) : CX sh I (xu (xu R 250 8 (some qd)) 250 9 (some qc)) m s v sp qa qb qd qc :=
  ⟨h.1.sw8, h.2.1.fr (fun _ _ _ => rfl) (fun i k q => by rw [xu_o (Or.inl q), xu_o (Or.inl q)]), by rw [xu_o (by decide), xu_o (by decide)]; exact h.2.2.1, h.2.2.2⟩
/-- what the pilot has laid for a day -/
def PH (J : Nat → Nat → Int32) (v : Nat → Nat → Int32) (t : Nat) : Prop := ∀ c, c < cn v 0 → J 251 c = vH v t c ∧ J 252 c = vH v (t + 1) c ∧ J 253 c = nI (vpr v t c)
theorem PH.fr {I J : Nat → Nat → Int32} (h : PH I v t) (e : ∀ i k, 251 ≤ i → i ≤ 253 → J i k = I i k) : PH J v t := fun c hc => ⟨(e _ _ (by decide) (by decide)).trans (h c hc).1, (e _ _ (by decide) (by decide)).trans (h c hc).2.1, (e _ _ (by decide) (by decide)).trans (h c hc).2.2⟩
theorem cs_levelX (hX : MX sh I R m s v) (hw : Wf v) {c : Nat} {d : Int32} (hc : c < 12) : Ec X 3 39 [.ref m, .int (nI c), .int d] (sh, I, L, R) (fun r h' => r = some (.int (lv v c d)) ∧ h' = (sh, I, L, R)) := cs_level hX.2.2.1 hX.2.2.2.1 hw hX.1 hX.2.1 hX.2.2.2.2.1 hc
/-- prices, well by well -/
def prK (v : Nat → Nat → Int32) (t c k : Nat) : Nat := wpr v (itN (wlS v c (vH v t c)) (-1) k)
theorem prK_0 {c : Nat} : prK v t c 0 = 0 := by show wpr v (-1) = 0; exact if_pos rfl
theorem prK_e {c : Nat} : prK v t c (cn v 2) = vpr v t c := rfl
theorem prK_b (hw : Wf v) {c k : Nat} (hk : k ≤ cn v 2) : prK v t c k ≤ 99 ∧ (prK v t c k = 0 ↔ itN (wlS v c (vH v t c)) (-1) k = -1) ∧ (∀ b, itN (wlS v c (vH v t c)) (-1) k = nI b → b < cn v 2 → pco v b = nI (prK v t c k)) := by
  have h4x := hw.1.2.2.2.1
  unfold prK wpr
  rcases wlo_bd (v := v) (c := c) (n := k) (h := vH v t c) with h | ⟨b, hb, h⟩
  · rw [h, if_pos rfl]
    exact ⟨by decide, ⟨fun _ => rfl, fun _ => rfl⟩, fun b e q => absurd e.symm (nI_m1' (by omega))⟩
  · have p := pco_ok hw (b := b) (by omega)
    have ne : ¬ nI b = (-1 : Int32) := nI_m1' (by omega)
    rw [h, if_neg ne, nI_clamp (by omega)]
    refine ⟨p.2.2, ⟨fun q => by omega, fun q => absurd q ne⟩, fun b' e q => ?_⟩
    have : b = b' := (nI_ij (by omega) (by omega)).mp e
    rw [← this]; exact p.1
theorem prK_s (hw : Wf v) {c k : Nat} (hk : k < cn v 2) (hc : c < cn v 0) : prK v t c (k + 1) = if pcl v k = c ∧ vH v t c ≤ plm v k ∧ (prK v t c k = 0 ∨ pco v k < nI (prK v t c k)) then (pco v k).toNatClampNeg else prK v t c k := by
  have h4x := hw.1.2.2.2.1
  have h0x := hw.1.2.1
  have p := pco_ok hw hk
  obtain ⟨b1x, b2x, b3x⟩ := prK_b (t := t) (c := c) hw (Nat.le_of_lt hk)
  have pl : pcl v k < cn v 0 := by
    obtain ⟨c', m', p', e1x, e2x, _⟩ := hw.2.2.2.1.1 k hk
    unfold pcl; rw [if_pos (by omega), e1x, nI_clamp (by omega)]; exact e2x
  have ec : nI (pcl v k) = nI c ↔ pcl v k = c := nI_ij (by omega) (by omega)
  have key : (itN (wlS v c (vH v t c)) (-1) k = -1 ∨ pco v k < pco v (itN (wlS v c (vH v t c)) (-1) k).toNatClampNeg) ↔ (prK v t c k = 0 ∨ pco v k < nI (prK v t c k)) := by
    rcases wlo_bd (v := v) (c := c) (n := k) (h := vH v t c) with h | ⟨b, hb, h⟩
    · exact ⟨fun _ => Or.inl (b2x.mpr h), fun _ => Or.inl h⟩
    · have e := b3x b h (by omega)
      rw [h, nI_clamp (by omega), e]
      have n0x : ¬ prK v t c k = 0 := fun q => by have := b2x.mp q; rw [h] at this; exact nI_m1' (by omega) this
      exact ⟨fun q => q.elim (fun z => absurd z (nI_m1' (by omega))) Or.inr, fun q => q.elim (fun z => absurd z n0x) Or.inr⟩
  have st : itN (wlS v c (vH v t c)) (-1) (k + 1) = wlS v c (vH v t c) k (itN (wlS v c (vH v t c)) (-1) k) := rfl
  by_cases q : pcl v k = c ∧ vH v t c ≤ plm v k ∧ (prK v t c k = 0 ∨ pco v k < nI (prK v t c k))
  · rw [if_pos q]
    have e : itN (wlS v c (vH v t c)) (-1) (k + 1) = nI k := by rw [st]; exact if_pos ⟨ec.mpr q.1, q.2.1, key.mpr q.2.2⟩
    unfold prK wpr
    rw [e, if_neg (nI_m1' (by omega)), nI_clamp (by omega)]
  · rw [if_neg q]
    have e : itN (wlS v c (vH v t c)) (-1) (k + 1) = itN (wlS v c (vH v t c)) (-1) k := by rw [st]; exact if_neg (fun r => q ⟨ec.mp r.1, r.2.1, key.mp r.2.2⟩)
    unfold prK
    rw [e]
theorem cs_canPass (hX : CX sh I R m s v sp qa qb qc qd) (hw : Wf v) (hp : PH I v t) (hs : sp < cn v 4) {c j : Nat} (hc : c < cn v 0) (hj : j < 3) : Ec X 2 59 [.ref 250, .int (nI c), .int (wy j)] (sh, I, L, R) (fun r h' => r = some (.int (yn (vgo v sp t c j = true))) ∧ h' = (sh, I, L, R)) := by
  obtain ⟨⟨p0x, p1x, p2x, p3x, ⟨sa, r6x⟩, ⟨sb, r7x⟩, ⟨sc, r8x⟩, ⟨sd, r9x⟩, qab, qcd⟩, hMX, pm, i1x, i2x⟩ := hX
  obtain ⟨hM, hms, hS, hV, hW, dm, ds⟩ := id hMX
  have hb := hw.1.2
  refine Ec.of (Nat.le_of_ble_eq_true rfl) ?_
  refine e_iload rfl rfl ?_
  refine e_iload rfl rfl ?_
  refine e_iadd rfl ?_
  rw [show (nI c) + (wy j) = nI (c + j) - 1 from wy_c]
  refine e_istore rfl ?_
  refine e_iload rfl rfl ?_
  refine e_ifne_b rfl (fun b5x => ?_) (fun b5x => ?_)
  · refine e_aload rfl rfl ?_
    refine e_getR rfl p0x pm ?_
    refine e_getR rfl hM.1 hms ?_
    refine e_iload rfl rfl ?_
    refine Eg.p2 rfl (by decide) (by decide) rfl (Nat.le_of_ble_eq_true rfl) (xrcv_of rfl hS.1 rfl) ((cs_hasCellV hS hV).mono (by decide)) ?_
    refine e_ifeq_b rfl (fun b21x => ?_) (fun b21x => ?_)
    · replace b21x := yn_0.mp b21x
      refine e_ipush rfl ?_
      exact Eg.ret rfl (by decide) rfl ⟨congrArg (fun q => some (Value.int q)) (yn_f (p := vgo v sp t c j = true) (fun q => by rcases of_decide_eq_true q with r | r; exact b5x ((wy_0 (by omega)).mpr r); exact b21x ((wc_cell (by omega) (by omega)).mpr r.1))).symm, rfl⟩
    · replace b21x := yn_n0.mp b21x
      have cj : 1 ≤ c + j ∧ c + j ≤ cn v 0 := (wc_cell (by omega) (by omega)).mp b21x
      have ew : nI (c + j) - 1 = nI (c + j - 1) := nI_sub (b := 1) cj.1
      refine e_aload rfl rfl ?_
      refine e_getR rfl p0x p2x.2 ?_
      refine e_iload rfl rfl ?_
      refine e_ialv (t := c + j - 1) (n := 12) rfl p2x.1 ew (by omega) (by decide) (hp (c + j - 1) (by omega)).2.1 ?_
      refine e_aload rfl rfl ?_
      refine e_getR rfl p0x p1x.2 ?_
      refine e_iload rfl rfl ?_
      refine e_ialv (t := c) (n := 12) rfl p1x.1 rfl (by omega) (by decide) (hp c (by omega)).1 ?_
      refine e_aload rfl rfl ?_
      refine e_getR rfl p0x pm ?_
      refine e_getR rfl hM.1 hms ?_
      refine e_getR rfl hS.1 (hS.2 11 _ rfl).2 ?_
      refine e_aload rfl rfl ?_
      refine e_getIv rfl p0x i1x ?_
      refine e_ialv (t := sp) (n := 4) rfl (hS.2 11 _ rfl).1 rfl (by omega) (by decide) (hV.2.2.2.2.2.2.2 sp (by omega)).2 ?_
      refine e_iadd rfl ?_
      refine e_cgt_b rfl (fun b52x => ?_) (fun b52x => ?_)
      · refine e_ipush rfl ?_
        exact Eg.ret rfl (by decide) rfl ⟨congrArg (fun q => some (Value.int q)) (yn_f (p := vgo v sp t c j = true) (fun q => by rcases of_decide_eq_true q with r | r; exact b5x ((wy_0 (by omega)).mpr r); exact Int32.not_le.mpr b52x r.2)).symm, rfl⟩
      · refine e_ipush rfl ?_
        refine e_goto rfl ?_
        exact Eg.ret rfl (by decide) rfl ⟨congrArg (fun q => some (Value.int q)) (yn_t (p := vgo v sp t c j = true) (decide_eq_true (Or.inr ⟨cj, Int32.not_lt.mp b52x⟩))).symm, rfl⟩
  · refine e_ipush rfl ?_
    exact Eg.ret rfl (by decide) rfl ⟨congrArg (fun q => some (Value.int q)) (yn_t (p := vgo v sp t c j = true) (decide_eq_true (Or.inl ((wy_0 (by omega)).mp b5x)))).symm, rfl⟩
theorem cs_start (hP : PA sh R qa qb qc qd) (hX : MX sh I R m s v) (hw : Wf v) (hs : sp < cn v 4) : Ec X 4 57 [.ref 250, .ref m, .int (nI sp)] (sh, I, L, R) (fun r h' => r = none ∧ ∃ J : Nat → Nat → Int32, h' = (sh, J, L, xu R 250 0 (some m)) ∧ CX sh J (xu R 250 0 (some m)) m s v sp qa qb qc qd ∧ (∀ c, c < cn v 0 → J 252 c = vH v 0 c) ∧ ∀ i k, i < 250 ∨ 257 < i → J i k = I i k) := by
  have hb := hw.1.2
  have hvs := vS_ok hw hs
  obtain ⟨R1x, eR⟩ : ∃ R1x, xu R 250 0 (some m) = R1x := ⟨_, rfl⟩
  have hP1x : PA sh R1x qa qb qc qd := by rw [← eR]; exact hP.m0
  have hX1x : MX sh I R1x m s v := hX.fr (fun _ _ _ => rfl) (fun i k q => by rw [← eR]; exact xu_o (Or.inl q))
  have pm : R1x 250 0 = some m := by rw [← eR]; exact xu_at
  rw [eR]
  obtain ⟨p0x, p1x, p2x, p3x, ⟨sa, r6x⟩, ⟨sb, r7x⟩, ⟨sc, r8x⟩, ⟨sd, r9x⟩, qab, qcd⟩ := id hP1x
  obtain ⟨hM, hms, hS, hV, hW, dm, ds⟩ := id hX1x
  refine Ec.of (Nat.le_of_ble_eq_true rfl) ?_
  refine e_aload rfl rfl ?_
  refine e_aload rfl rfl ?_
  refine e_putR rfl p0x ?_
  rw [eR]
  refine e_aload rfl rfl ?_
  refine e_iload rfl rfl ?_
  refine e_putIJ rfl p0x (fun J11x g11x f11x => ?_)
  refine e_aload rfl rfl ?_
  refine e_aload rfl rfl ?_
  refine e_getR rfl p0x pm ?_
  refine e_getR rfl hM.1 hms ?_
  refine e_getR rfl hS.1 (hS.2 10 _ rfl).2 ?_
  refine e_aload rfl rfl ?_
  refine e_getIv rfl p0x g11x ?_
  refine e_ialv (t := sp) (n := 4) rfl (hS.2 10 _ rfl).1 rfl (by omega) (by decide) ((f11x (s + 11) sp (Or.inl (by omega))).trans ((hV.2.2.2.2.2.2.2 sp hs).1.trans hvs.2.2.2.2.1)) ?_
  refine e_putIJ rfl p0x (fun J12x g12x f12x => ?_)
  refine e_ipush rfl ?_
  refine e_istore rfl ?_
  refine Eg.pk [0, 1, 2, 3] [3, 0, 1, 2] rfl (by decide) ?_
  refine up_ind (p := fun c => ∀ J : Nat → Nat → Int32, J 250 1 = nI sp → J 250 2 = nI (vT v sp) → (∀ d, d < c → J 252 d = vH v 0 d) → (∀ i k, i < 250 ∨ 257 < i → J i k = I i k) → Eg X xTc 3 57 31 [(0, .ref 250), (1, .ref m), (2, .int (nI sp)), (3, .int (nI c))] [] (sh, J, L, R1x) (fun r h' => r = none ∧ ∃ J : Nat → Nat → Int32, h' = (sh, J, L, R1x) ∧ CX sh J (R1x) m s v sp qa qb qc qd ∧ (∀ c, c < cn v 0 → J 252 c = vH v 0 c) ∧ ∀ i k, i < 250 ∨ 257 < i → J i k = I i k)) (n := cn v 0) (j := 0) (fun c hc ih J k1x k2x k3x k4x => ?_) (fun J k1x k2x k3x k4x => ?_) (Nat.zero_le _) J12x ((f12x 250 1 (Or.inr (by decide))).trans g11x) g12x (fun d q => absurd q (by omega)) (fun i k q => (f12x i k (by omega)).trans (f11x i k (by omega)))
  · have hXJ : MX sh J R1x m s v := hX1x.fr k4x (fun _ _ _ => rfl)
    have hVJ := hXJ.2.2.2.1
    have hWJ := hXJ.2.2.2.2.1
    refine e_iload rfl rfl ?_
    refine e_aload rfl rfl ?_
    refine e_getR rfl p0x pm ?_
    refine e_getR rfl hM.1 hms ?_
    refine e_getIv rfl hS.1 (hVJ.1 0 (by decide)) ?_
    refine e_cge_f rfl (nI_ge hc (by omega)) ?_
    refine e_aload rfl rfl ?_
    refine e_getR rfl p0x p2x.2 ?_
    refine e_iload rfl rfl ?_
    refine e_aload rfl rfl ?_
    refine e_getR rfl p0x pm ?_
    refine e_iload rfl rfl ?_
    refine e_aload rfl rfl ?_
    refine e_getR rfl p0x pm ?_
    refine e_getIv rfl hM.1 hWJ.1 ?_
    refine Eg.p3 rfl (by decide) (by decide) rfl (Nat.le_of_ble_eq_true rfl) (xrcv_of rfl hM.1 rfl) ((cs_levelX hXJ hw (c := c) (by omega)).mono (by decide)) ?_
    refine e_iasJ (t := c) (n := 12) rfl p2x.1 rfl (by omega) (by decide) (fun J21x g21x f21x => ?_)
    refine e_iinc rfl rfl ?_
    refine e_goto rfl ?_
    refine Eg.pk [0, 1, 2, 3] [3, 0, 1, 2] rfl (by decide) ?_
    rw [nI_1]
    exact ih J21x ((f21x 250 1 (Or.inl (by decide))).trans k1x) ((f21x 250 2 (Or.inl (by decide))).trans k2x) (fun d q => by by_cases e : d = c; rw [e]; exact g21x; exact (f21x 252 d (Or.inr e)).trans (k3x d (by omega))) (fun i k q => (f21x i k (by omega)).trans (k4x i k q))
  · have hXJ : MX sh J R1x m s v := hX1x.fr k4x (fun _ _ _ => rfl)
    have hVJ := hXJ.2.2.2.1
    have hWJ := hXJ.2.2.2.2.1
    refine e_iload rfl rfl ?_
    refine e_aload rfl rfl ?_
    refine e_getR rfl p0x pm ?_
    refine e_getR rfl hM.1 hms ?_
    refine e_getIv rfl hS.1 (hVJ.1 0 (by decide)) ?_
    refine e_cge_t rfl (Int32.le_refl _) ?_
    exact Eg.ret rfl (by decide) rfl ⟨rfl, J, rfl, ⟨hP1x, hXJ, pm, k1x, k2x⟩, k3x, k4x⟩
theorem cs_lookAt (hX : CX sh I R m s v sp qa qb qc qd) (hw : Wf v) (hp : ∀ c, c < cn v 0 → I 252 c = vH v t c) : Ec X 4 58 [.ref 250, .int (nI (cn v 7 + t))] (sh, I, L, R) (fun r h' => r = none ∧ ∃ J : Nat → Nat → Int32, h' = (sh, J, L, R) ∧ PH J v t ∧ ∀ i k, i ≠ 251 → i ≠ 252 → i ≠ 253 → J i k = I i k) := by
  obtain ⟨⟨p0x, p1x, p2x, p3x, ⟨sa, r6x⟩, ⟨sb, r7x⟩, ⟨sc, r8x⟩, ⟨sd, r9x⟩, qab, qcd⟩, hMX, pm, i1x, i2x⟩ := hX
  obtain ⟨hM, hms, hS, hV, hW, dm, ds⟩ := id hMX
  have hb := hw.1.2
  refine Ec.of (Nat.le_of_ble_eq_true rfl) ?_
  refine e_aload rfl rfl ?_
  refine e_getR rfl p0x pm ?_
  refine e_getR rfl hM.1 hms ?_
  refine e_astore rfl ?_
  refine e_ipush rfl ?_
  refine e_istore rfl ?_
  refine Eg.pk [0, 1, 2, 3] [3, 2, 0, 1] rfl (by decide) ?_
  refine up_ind (p := fun c => ∀ J : Nat → Nat → Int32, (∀ d, d < c → J 251 d = vH v t d ∧ J 252 d = vH v (t + 1) d ∧ J 253 d = 0) → (∀ d, c ≤ d → d < cn v 0 → J 252 d = vH v t d) → (∀ i k, i ≠ 251 → i ≠ 252 → i ≠ 253 → J i k = I i k) → Eg X xTc 3 58 10 [(0, .ref 250), (1, .int (nI (cn v 7 + t))), (2, .ref s), (3, .int (nI c))] [] (sh, J, L, R) (fun r h' => r = none ∧ ∃ J : Nat → Nat → Int32, h' = (sh, J, L, R) ∧ PH J v t ∧ ∀ i k, i ≠ 251 → i ≠ 252 → i ≠ 253 → J i k = I i k)) (n := cn v 0) (j := 0) (fun c hc ih J k1x k2x k3x => ?_) (fun J k1x k2x k3x => ?_) (Nat.zero_le _) I (fun d q => absurd q (by omega)) (fun d _ q => hp d q) (fun _ _ _ _ _ => rfl)
  · have hXJ : MX sh J R m s v := hMX.fr (fun i k q => k3x i k (by omega) (by omega) (by omega)) (fun _ _ _ => rfl)
    have hVJ := hXJ.2.2.2.1
    have hWJ := hXJ.2.2.2.2.1
    refine e_iload rfl rfl ?_
    refine e_aload rfl rfl ?_
    refine e_getIv rfl hS.1 (hVJ.1 0 (by decide)) ?_
    refine e_cge_f rfl (nI_ge hc (by omega)) ?_
    refine e_aload rfl rfl ?_
    refine e_getR rfl p0x p1x.2 ?_
    refine e_iload rfl rfl ?_
    refine e_aload rfl rfl ?_
    refine e_getR rfl p0x p2x.2 ?_
    refine e_iload rfl rfl ?_
    refine e_ialv (t := c) (n := 12) rfl p2x.1 rfl (by omega) (by decide) (k2x c (Nat.le_refl _) hc) ?_
    refine e_iasJ (t := c) (n := 12) rfl p1x.1 rfl (by omega) (by decide) (fun J11x g11x f11x => ?_)
    refine e_aload rfl rfl ?_
    refine e_getR rfl p0x p2x.2 ?_
    refine e_iload rfl rfl ?_
    refine e_aload rfl rfl ?_
    refine e_getR rfl p0x pm ?_
    refine e_iload rfl rfl ?_
    refine e_iload rfl rfl ?_
    refine e_ipush rfl ?_
    refine e_iadd rfl ?_
    rw [show (nI (cn v 7 + t)) + (1 : Int32) = nI (cn v 7 + (t + 1)) from nI_1 _]
    refine Eg.p3 rfl (by decide) (by decide) rfl (Nat.le_of_ble_eq_true rfl) (xrcv_of rfl hM.1 rfl) ((cs_levelX (hXJ.fr (fun i k q => (f11x i k (Or.inl (by omega)))) (fun _ _ _ => rfl)) hw (c := c) (by omega)).mono (by decide)) ?_
    refine e_iasJ (t := c) (n := 12) rfl p2x.1 rfl (by omega) (by decide) (fun J12x g12x f12x => ?_)
    refine e_aload rfl rfl ?_
    refine e_getR rfl p0x p3x.2 ?_
    refine e_iload rfl rfl ?_
    refine e_ipush rfl ?_
    refine e_iasJ (t := c) (n := 12) rfl p3x.1 rfl (by omega) (by decide) (fun J13x g13x f13x => ?_)
    refine e_iinc rfl rfl ?_
    refine e_goto rfl ?_
    refine Eg.pk [0, 1, 2, 3] [3, 0, 1, 2] rfl (by decide) ?_
    rw [nI_1]
    refine ih J13x (fun d q => ?_) (fun d q1x q2x => ((f13x 252 d (Or.inr (by omega))).trans ((f12x 252 d (Or.inr (by omega))).trans (f11x 252 d (Or.inr (by omega))))).trans (k2x d (by omega) q2x)) (fun i k q1x q2x q3x => (f13x i k (Or.inl q3x)).trans ((f12x i k (Or.inl q2x)).trans ((f11x i k (Or.inl q1x)).trans (k3x i k q1x q2x q3x))))
    by_cases e : d = c
    · subst e; exact ⟨(f13x _ _ (Or.inl (by decide))).trans ((f12x _ _ (Or.inl (by decide))).trans g11x), (f13x _ _ (Or.inl (by decide))).trans g12x, g13x⟩
    · have z := k1x d (by omega)
      exact ⟨((f13x _ _ (Or.inr e)).trans ((f12x _ _ (Or.inr e)).trans (f11x _ _ (Or.inr e)))).trans z.1, ((f13x _ _ (Or.inr e)).trans ((f12x _ _ (Or.inr e)).trans (f11x _ _ (Or.inr e)))).trans z.2.1, ((f13x _ _ (Or.inr e)).trans ((f12x _ _ (Or.inr e)).trans (f11x _ _ (Or.inr e)))).trans z.2.2⟩
  · have hXJ : MX sh J R m s v := hMX.fr (fun i k q => k3x i k (by omega) (by omega) (by omega)) (fun _ _ _ => rfl)
    have hVJ := hXJ.2.2.2.1
    have hWJ := hXJ.2.2.2.2.1
    refine e_iload rfl rfl ?_
    refine e_aload rfl rfl ?_
    refine e_getIv rfl hS.1 (hVJ.1 0 (by decide)) ?_
    refine e_cge_t rfl (Int32.le_refl _) ?_
    refine e_ipush rfl ?_
    refine e_istore rfl ?_
    refine Eg.pk [0, 1, 2, 3] [3, 0, 1, 2] rfl (by decide) ?_
    refine up_ind (p := fun k => ∀ K : Nat → Nat → Int32, (∀ d, d < cn v 0 → K 251 d = vH v t d ∧ K 252 d = vH v (t + 1) d ∧ K 253 d = nI (prK v t d k)) → (∀ i k, i ≠ 251 → i ≠ 252 → i ≠ 253 → K i k = I i k) → Eg X xTc 3 58 62 [(0, .ref 250), (1, .int (nI (cn v 7 + t))), (2, .ref s), (3, .int (nI k))] [] (sh, K, L, R) (fun r h' => r = none ∧ ∃ J : Nat → Nat → Int32, h' = (sh, J, L, R) ∧ PH J v t ∧ ∀ i k, i ≠ 251 → i ≠ 252 → i ≠ 253 → J i k = I i k)) (n := cn v 2) (j := 0) (fun k hk ih K m1x m2x => ?_) (fun K m1x m2x => ?_) (Nat.zero_le _) J (fun d q => ⟨(k1x d q).1, (k1x d q).2.1, (k1x d q).2.2⟩) k3x
    · have hXK : MX sh K R m s v := hMX.fr (fun i k q => m2x i k (by omega) (by omega) (by omega)) (fun _ _ _ => rfl)
      have hVK := hXK.2.2.2.1
      have hp2x : isP v k := Or.inl ⟨by omega, hk⟩
      have pl : pcl v k < cn v 0 := by obtain ⟨c', m', p', e1x, e2x, _⟩ := hw.2.2.2.1.1 k hk; unfold pcl; rw [if_pos (by omega), e1x, nI_clamp (by omega)]; exact e2x
      have pk := pco_ok hw hk
      have ps := fun d hd => prK_s (t := t) (c := d) hw hk hd
      have pb := prK_b (t := t) (c := pcl v k) hw (Nat.le_of_lt hk)
      refine e_iload rfl rfl ?_
      refine e_aload rfl rfl ?_
      refine e_getIv rfl hS.1 (hVK.1 2 (by decide)) ?_
      refine e_cge_f rfl (nI_ge hk (by omega)) ?_
      refine e_aload rfl rfl ?_
      refine e_getR rfl hS.1 (hS.2 6 _ rfl).2 ?_
      refine e_iload rfl rfl ?_
      refine e_ialv (t := k) (n := 8) rfl (hS.2 6 _ rfl).1 rfl (by omega) (by decide) (hVK.p (p := k) (by assumption) hw).1 ?_
      refine e_istore rfl ?_
      refine e_aload rfl rfl ?_
      refine e_getR rfl p0x p3x.2 ?_
      refine e_iload rfl rfl ?_
      refine e_ialv (t := pcl v k) (n := 12) rfl p3x.1 rfl (by omega) (by decide) (m1x (pcl v k) pl).2.2 ?_
      refine e_ifeq_b rfl (fun b85x => ?_) (fun b85x => ?_)
      · refine e_ipush rfl ?_
        refine e_goto rfl ?_
        refine e_istore rfl ?_
        refine e_aload rfl rfl ?_
        refine e_getR rfl p0x p1x.2 ?_
        refine e_iload rfl rfl ?_
        refine e_ialv (t := pcl v k) (n := 12) rfl p1x.1 rfl (by omega) (by decide) (m1x (pcl v k) pl).1 ?_
        refine e_aload rfl rfl ?_
        refine e_getR rfl hS.1 (hS.2 7 _ rfl).2 ?_
        refine e_iload rfl rfl ?_
        refine e_ialv (t := k) (n := 8) rfl (hS.2 7 _ rfl).1 rfl (by omega) (by decide) (hVK.p (p := k) (by assumption) hw).2.1 ?_
        refine e_cgt_b rfl (fun b124x => ?_) (fun b124x => ?_)
        · refine e_iinc rfl rfl ?_
          refine e_goto rfl ?_
          refine Eg.pk [0, 1, 2, 3] [3, 5, 4, 0, 1, 2] rfl (by decide) ?_
          rw [nI_1]
          refine ih K (fun d q => ⟨(m1x d q).1, (m1x d q).2.1, ?_⟩) m2x
          rw [ps d q, if_neg ?_]
          · exact (m1x d q).2.2
          · rintro ⟨e, r1x, r2x⟩
            subst e
            exact Int32.not_lt.mpr r1x b124x
        · refine e_iload rfl rfl ?_
          refine e_ifeq_f rfl (by decide) ?_
          refine e_aload rfl rfl ?_
          refine e_getR rfl p0x p3x.2 ?_
          refine e_iload rfl rfl ?_
          refine e_aload rfl rfl ?_
          refine e_getR rfl hS.1 (hS.2 8 _ rfl).2 ?_
          refine e_iload rfl rfl ?_
          refine e_ialv (t := k) (n := 8) rfl (hS.2 8 _ rfl).1 rfl (by omega) (by decide) (hVK.p (p := k) (by assumption) hw).2.2 ?_
          refine e_iasJ (t := pcl v k) (n := 12) rfl p3x.1 rfl (by omega) (by decide) (fun J31x g31x f31x => ?_)
          refine e_iinc rfl rfl ?_
          refine e_goto rfl ?_
          refine Eg.pk [0, 1, 2, 3] [3, 5, 4, 0, 1, 2] rfl (by decide) ?_
          rw [nI_1]
          refine ih J31x (fun d q => ?_) (fun i k q1x q2x q3x => (f31x i k (Or.inl q3x)).trans (m2x i k q1x q2x q3x))
          refine ⟨(f31x _ _ (Or.inl (by decide))).trans (m1x d q).1, (f31x _ _ (Or.inl (by decide))).trans (m1x d q).2.1, ?_⟩
          rw [ps d q]
          by_cases e : d = pcl v k
          · subst e; rw [if_pos ⟨rfl, Int32.not_lt.mp b124x, Or.inl ((nI_ij (b := 0) (by omega) (by decide)).mp b85x)⟩, g31x]; exact pk.1
          · rw [if_neg (fun r => e r.1.symm)]; exact (f31x _ _ (Or.inr e)).trans (m1x d q).2.2
      · refine e_aload rfl rfl ?_
        refine e_getR rfl hS.1 (hS.2 8 _ rfl).2 ?_
        refine e_iload rfl rfl ?_
        refine e_ialv (t := k) (n := 8) rfl (hS.2 8 _ rfl).1 rfl (by omega) (by decide) (hVK.p (p := k) (by assumption) hw).2.2 ?_
        refine e_aload rfl rfl ?_
        refine e_getR rfl p0x p3x.2 ?_
        refine e_iload rfl rfl ?_
        refine e_ialv (t := pcl v k) (n := 12) rfl p3x.1 rfl (by omega) (by decide) (m1x (pcl v k) pl).2.2 ?_
        refine e_cge_b rfl (fun b101x => ?_) (fun b101x => ?_)
        · refine e_ipush rfl ?_
          refine e_istore rfl ?_
          refine e_aload rfl rfl ?_
          refine e_getR rfl p0x p1x.2 ?_
          refine e_iload rfl rfl ?_
          refine e_ialv (t := pcl v k) (n := 12) rfl p1x.1 rfl (by omega) (by decide) (m1x (pcl v k) pl).1 ?_
          refine e_aload rfl rfl ?_
          refine e_getR rfl hS.1 (hS.2 7 _ rfl).2 ?_
          refine e_iload rfl rfl ?_
          refine e_ialv (t := k) (n := 8) rfl (hS.2 7 _ rfl).1 rfl (by omega) (by decide) (hVK.p (p := k) (by assumption) hw).2.1 ?_
          refine e_cgt_b rfl (fun b124x => ?_) (fun b124x => ?_)
          · refine e_iinc rfl rfl ?_
            refine e_goto rfl ?_
            refine Eg.pk [0, 1, 2, 3] [3, 5, 4, 0, 1, 2] rfl (by decide) ?_
            rw [nI_1]
            refine ih K (fun d q => ⟨(m1x d q).1, (m1x d q).2.1, ?_⟩) m2x
            rw [ps d q, if_neg ?_]
            · exact (m1x d q).2.2
            · rintro ⟨e, r1x, r2x⟩
              subst e
              exact Int32.not_lt.mpr r1x b124x
          · refine e_iload rfl rfl ?_
            refine e_ifeq_t rfl rfl ?_
            refine e_iinc rfl rfl ?_
            refine e_goto rfl ?_
            refine Eg.pk [0, 1, 2, 3] [3, 5, 4, 0, 1, 2] rfl (by decide) ?_
            rw [nI_1]
            refine ih K (fun d q => ⟨(m1x d q).1, (m1x d q).2.1, ?_⟩) m2x
            rw [ps d q, if_neg ?_]
            · exact (m1x d q).2.2
            · rintro ⟨e, r1x, r2x⟩
              subst e
              rcases r2x with r2x | r2x
              · exact b85x (by rw [r2x]; rfl)
              · exact Int32.not_lt.mpr b101x r2x
        · refine e_ipush rfl ?_
          refine e_goto rfl ?_
          refine e_istore rfl ?_
          refine e_aload rfl rfl ?_
          refine e_getR rfl p0x p1x.2 ?_
          refine e_iload rfl rfl ?_
          refine e_ialv (t := pcl v k) (n := 12) rfl p1x.1 rfl (by omega) (by decide) (m1x (pcl v k) pl).1 ?_
          refine e_aload rfl rfl ?_
          refine e_getR rfl hS.1 (hS.2 7 _ rfl).2 ?_
          refine e_iload rfl rfl ?_
          refine e_ialv (t := k) (n := 8) rfl (hS.2 7 _ rfl).1 rfl (by omega) (by decide) (hVK.p (p := k) (by assumption) hw).2.1 ?_
          refine e_cgt_b rfl (fun b124x => ?_) (fun b124x => ?_)
          · refine e_iinc rfl rfl ?_
            refine e_goto rfl ?_
            refine Eg.pk [0, 1, 2, 3] [3, 5, 4, 0, 1, 2] rfl (by decide) ?_
            rw [nI_1]
            refine ih K (fun d q => ⟨(m1x d q).1, (m1x d q).2.1, ?_⟩) m2x
            rw [ps d q, if_neg ?_]
            · exact (m1x d q).2.2
            · rintro ⟨e, r1x, r2x⟩
              subst e
              exact Int32.not_lt.mpr r1x b124x
          · refine e_iload rfl rfl ?_
            refine e_ifeq_f rfl (by decide) ?_
            refine e_aload rfl rfl ?_
            refine e_getR rfl p0x p3x.2 ?_
            refine e_iload rfl rfl ?_
            refine e_aload rfl rfl ?_
            refine e_getR rfl hS.1 (hS.2 8 _ rfl).2 ?_
            refine e_iload rfl rfl ?_
            refine e_ialv (t := k) (n := 8) rfl (hS.2 8 _ rfl).1 rfl (by omega) (by decide) (hVK.p (p := k) (by assumption) hw).2.2 ?_
            refine e_iasJ (t := pcl v k) (n := 12) rfl p3x.1 rfl (by omega) (by decide) (fun J32x g32x f32x => ?_)
            refine e_iinc rfl rfl ?_
            refine e_goto rfl ?_
            refine Eg.pk [0, 1, 2, 3] [3, 5, 4, 0, 1, 2] rfl (by decide) ?_
            rw [nI_1]
            refine ih J32x (fun d q => ?_) (fun i k q1x q2x q3x => (f32x i k (Or.inl q3x)).trans (m2x i k q1x q2x q3x))
            refine ⟨(f32x _ _ (Or.inl (by decide))).trans (m1x d q).1, (f32x _ _ (Or.inl (by decide))).trans (m1x d q).2.1, ?_⟩
            rw [ps d q]
            by_cases e : d = pcl v k
            · subst e; rw [if_pos ⟨rfl, Int32.not_lt.mp b124x, Or.inr (Int32.not_le.mp b101x)⟩, g32x]; exact pk.1
            · rw [if_neg (fun r => e r.1.symm)]; exact (f32x _ _ (Or.inr e)).trans (m1x d q).2.2
    · have hXK : MX sh K R m s v := hMX.fr (fun i k q => m2x i k (by omega) (by omega) (by omega)) (fun _ _ _ => rfl)
      have hVK := hXK.2.2.2.1
      refine e_iload rfl rfl ?_
      refine e_aload rfl rfl ?_
      refine e_getIv rfl hS.1 (hVK.1 2 (by decide)) ?_
      refine e_cge_t rfl (Int32.le_refl _) ?_
      exact Eg.ret rfl (by decide) rfl ⟨rfl, K, rfl, m1x, m2x⟩
end VC1x
