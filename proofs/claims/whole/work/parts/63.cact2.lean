/-! fill, fence, dig: the one side -/
section CB
variable {X : xX} {h : xH} {sh : List (Nat × Nat)} {I : Nat → Nat → Int32} {L : Nat → Nat → Int64} {R : Nat → Nat → Option Nat} {v : Nat → Nat → Int32} {w s m : Nat}
theorem Wf.mk {V : Nat → Nat → Int32} (hw : Wf v) (q : agr V v) (h7 : ∃ d, d ≤ 20000 ∧ V 1 7 = nI d) (h8 : ∃ F, F < 4096 ∧ V 1 8 = nI F) (h9 : ∃ n, n ≤ 8 ∧ V 1 9 = nI n) (hs : ∀ k, k < cn v 4 → ∃ c t, V 13 k = nI c ∧ c < cn v 0 ∧ V 14 k = nI t ∧ ∀ m, m ≤ 30 → v 15 k = nI m → t ≤ m) : Wf V := by
  obtain ⟨⟨n1, n2⟩, wT, wG, wP, wS⟩ := hw
  obtain ⟨d, hd, ed⟩ := h7
  obtain ⟨F, hF, eF⟩ := h8
  obtain ⟨n, hn, en⟩ := h9
  have c7 : cn V 7 = d := by unfold cn; rw [ed, nI_clamp (by omega)]
  have c8 : cn V 8 = F := by unfold cn; rw [eF, nI_clamp (by omega)]
  have c9 : cn V 9 = n := by unfold cn; rw [en, nI_clamp (by omega)]
  have c := fun j (hj : j < 7 ∨ 9 < j) => q.c hj
  refine ⟨⟨fun j hj => ?_, ?_⟩, fun t ht => ?_, fun k hk => ?_, ⟨fun k hk => ?_, fun k hk => ?_⟩, fun k hk => ?_⟩
  · by_cases e7 : j = 7
    · subst e7; rw [c7]; exact ed
    · by_cases e8 : j = 8
      · subst e8; rw [c8]; exact eF
      · by_cases e9 : j = 9
        · subst e9; rw [c9]; exact en
        · rw [c j (by omega), q 1 j (by rw [slot_iff]; omega)]; exact n1 j hj
  · rw [c 0 (by omega), c 1 (by omega), c 2 (by omega), c 3 (by omega), c 4 (by omega), c 5 (by omega), c 6 (by omega), c7, c8, c9, c 10 (by omega), c 11 (by omega), c 12 (by omega)]
    omega
  · rw [c 1 (by omega)] at ht
    rw [q.f (f := 5) (by omega), q.f (f := 3) (by omega), q.f (f := 4) (by omega)]
    obtain ⟨p, lg, sf, a1, a2, a3, a4, a5, a6, a7, a8⟩ := wT t ht
    exact ⟨p, lg, sf, a1, a2, a3, a4, a5, a6, a7, fun k hk => by rw [q.f (f := 6) (by omega)]; exact a8 k hk⟩
  · rw [q.f (f := 2) (by omega)]; exact wG k hk
  · rw [c 2 (by omega)] at hk
    rw [c 0 (by omega), q.f (f := 7) (by omega), q.f (f := 8) (by omega), q.f (f := 9) (by omega)]; exact wP.1 k hk
  · rw [c 3 (by omega)] at hk
    rw [c 0 (by omega), q.f (f := 10) (by omega), q.f (f := 11) (by omega), q.f (f := 12) (by omega)]; exact wP.2 k hk
  · rw [c 4 (by omega)] at hk
    obtain ⟨x, y, a1, a2, a3, a4⟩ := hs k hk
    obtain ⟨x0, y0, m, b, b1, b2, b3, b4, b5, b6, b7, b8, b9⟩ := wS k hk
    rw [c 0 (by omega), q.f (f := 15) (by omega), q.f (f := 16) (by omega)]
    exact ⟨x, y, m, b, a1, a2, a3, a4 m b7 b5, b5, b6, b7, b8, b9⟩
theorem Wf.ships (hw : Wf v) : ∀ k, k < cn v 4 → ∃ c t, v 13 k = nI c ∧ c < cn v 0 ∧ v 14 k = nI t ∧ ∀ m, m ≤ 30 → v 15 k = nI m → t ≤ m := by
  intro k hk
  obtain ⟨x0, y0, m, b, b1, b2, b3, b4, b5, b6, b7, b8, b9⟩ := hw.2.2.2.2 k hk
  refine ⟨x0, y0, b1, b2, b3, fun m' h1 h2 => ?_⟩
  rw [b5] at h2
  have := (nI_eq (by omega) (by omega)).mp h2
  omega
def gFill (v : Nat → Nat → Int32) (x : Int32) : Prop := ¬ (x < 0 ∨ nI (cn v 4) ≤ x) ∧ v 18 x.toNatClampNeg = -1 ∧ ¬ wlo v (v 13 x.toNatClampNeg).toNatClampNeg (nI (cn v 7)) = -1
def fCost (v : Nat → Nat → Int32) (k : Nat) : Int32 := (v 15 k - v 14 k) * pco v (wlo v (v 13 k).toNatClampNeg (nI (cn v 7))).toNatClampNeg
theorem filF_agr {k : Nat} {x : Int32} (hk : k < 4) : agr (filF v k x) v := by
  intro f i h
  rw [slot_iff] at h
  unfold filF
  rw [xu_o (by omega), xu_o (by omega)]
theorem filF_wf {k : Nat} {x : Int32} (hw : Wf v) (hk : k < cn v 4) : Wf (filF v k x) := by
  have hb := hw.1.2
  have e1 : ∀ j, filF v k x 1 j = v 1 j := fun j => by unfold filF; rw [xu_i (by decide), xu_i (by decide)]
  refine hw.mk (filF_agr (by omega)) ⟨cn v 7, by omega, (e1 7).trans (hw.n (by decide))⟩ ⟨cn v 8, by omega, (e1 8).trans (hw.n (by decide))⟩ ⟨cn v 9, by omega, (e1 9).trans (hw.n (by decide))⟩ (fun j hj => ?_)
  obtain ⟨x0, y0, m, b, b1, b2, b3, b4, b5, b6, b7, b8, b9⟩ := hw.2.2.2.2 j hj
  have e13 : filF v k x 13 j = v 13 j := by unfold filF; rw [xu_i (by decide), xu_i (by decide)]
  by_cases e : j = k
  · subst e
    have e14 : filF v j x 14 j = v 15 j := by unfold filF; rw [xu_i (by decide), xu_at]
    exact ⟨x0, m, e13.trans b1, b2, e14.trans b5, fun m' h1 h2 => by rw [b5] at h2; have := (nI_eq (by omega) (by omega)).mp h2; omega⟩
  · have e14 : filF v k x 14 j = v 14 j := by unfold filF; rw [xu_i (by decide), xu_o (by omega)]
    exact ⟨x0, y0, e13.trans b1, b2, e14.trans b3, fun m' h1 h2 => by rw [b5] at h2; have := (nI_eq (by omega) (by omega)).mp h2; omega⟩
/-- an act's end: a new moment behind what was kept -/
theorem ACT.of {P : Nat → Int32} {a y : Nat} {V : Nat → Nat → Int32} {I1 I2 : Nat → Nat → Int32} {R1 : Nat → Nat → Option Nat} (hA1 : WRel sh I1 R1 w s v P a) (q : agr V v) (hW : MomV I2 (w + 12) V) (hI : ∀ i k, i < w + 12 ∨ w + 20 < i → I2 i k = I1 i k) (h1 : ∀ i k, i < w ∨ w + 200 < i → i ≠ y → I1 i k = I i k) (h2 : ∀ x k, x < w ∨ w + 200 < x → R1 x k = R x k) : ACT sh I L R w s y V P a (sh, I2, L, R1) := by
  obtain ⟨b1, b2, b3, b4, b5, b6, b7, p, b8⟩ := hA1
  refine ⟨I2, R1, rfl, ⟨b1, b2, b3, hW, (b5.fr (fun i k h1 h2 => hI i k (by omega))).ex q, (hI w 2 (by omega)).trans b6, b7, p, PastR.ex (v := v) ⟨b8.1, b8.2.1, b8.2.2.1, fun i hi => ?_⟩ q⟩, fun i k h3 h4 => (hI i k (by omega)).trans (h1 i k h3 h4), h2⟩
  obtain ⟨q1, q2⟩ := b8.2.2.2 i hi
  have := (b8.1 i (by omega)).1
  exact ⟨q1, q2.fr (fun j k h1 h2 => hI j k (by omega))⟩
theorem cf_fill {P : Nat → Int32} {a y : Nat} (hq : AQ sh I R w s y v P a) {x : Int32} : Ec X 5 148 [.ref 0, .int x] (sh, I, L, R) (fun r h' => (gFill v x ∧ r = some (.int (fCost v x.toNatClampNeg)) ∧ ACT sh I L R w s y (filF v x.toNatClampNeg (fCost v x.toNatClampNeg)) (remP v P a) (remB a + 1) h') ∨ (¬ gFill v x ∧ r = some (.int (-1)) ∧ h' = (sh, I, L, R))) := by
  obtain ⟨h0, r7, hWd, rm, hM, hms, hS, hV, hU, hw, hW⟩ := hq.cq
  obtain ⟨-, -, r12, hy, hw0, hwy, hsw, hR, hA, -⟩ := hq
  have hb := hw.1.2
  refine Ec.of (Nat.le_of_ble_eq_true rfl) ?_
  refine e_aload rfl rfl ?_
  refine e_getR rfl h0 r7 ?_
  refine e_getR rfl hWd rm ?_
  refine e_astore rfl ?_
  refine e_aload rfl rfl ?_
  refine e_getR rfl hM.1 hms ?_
  refine e_iload rfl rfl ?_
  refine Eg.p2 rfl (by decide) (by decide) rfl (Nat.le_of_ble_eq_true rfl) (xrcv_of rfl hS.1 rfl) ((cs_hasShipV hS hV).mono (by decide)) ?_
  refine e_ifeq_b rfl (fun b16 => ?_) (fun b16 => ?_)
  · replace b16 := yn_0.mp b16
    refine e_ipush rfl ?_
    exact Eg.ret rfl (by decide) rfl (Or.inr ⟨fun q => b16 q.1, rfl, rfl⟩)
  · replace b16 := yn_n0.mp b16
    obtain ⟨t, ht, et⟩ := nI_get b16 (by omega)
    subst et
    obtain ⟨c, wa, tk, cl, ec, hc, -⟩ := hw.2.2.2.2 t ht
    refine e_aload rfl rfl ?_
    refine e_iload rfl rfl ?_
    refine Eg.p2 rfl (by decide) (by decide) rfl (Nat.le_of_ble_eq_true rfl) (xrcv_of rfl hM.1 rfl) ((cs_isDry hS hV hw hM hms hW (k := t) (by omega)).mono (by decide)) ?_
    refine e_ifeq_b rfl (fun b24 => ?_) (fun b24 => ?_)
    · replace b24 := yn_0.mp b24
      refine e_aload rfl rfl ?_
      refine e_aload rfl rfl ?_
      refine e_getR rfl hM.1 (hM.2 0 _ rfl).2 ?_
      refine e_iload rfl rfl ?_
      refine e_ialv (t := t) (n := 4) rfl (hM.2 0 _ rfl).1 rfl (by omega) (by decide) ((hW.2.2.1 t (by omega)).1.trans ec) ?_
      refine Eg.p2 rfl (by decide) (by decide) rfl (Nat.le_of_ble_eq_true rfl) (xrcv_of rfl hM.1 rfl) ((cs_wellOf hS hV hw hM hms hW (c := c) (by omega)).mono (by decide)) ?_
      refine e_istore rfl ?_
      refine e_iload rfl rfl ?_
      refine e_ipush rfl ?_
      refine e_cne_b rfl (fun b42 => ?_) (fun b42 => ?_)
      · obtain e | ⟨b, hbb, eb⟩ := wlo_bd (v := v) (c := c) (n := cn v 2) (h := lv v c (nI (cn v 7)))
        · exact absurd e b42
        have eb : wlo v c (nI (cn v 7)) = nI b := eb
        have hpb : isP v b := Or.inl ⟨by omega, hbb⟩
        refine e_aload rfl rfl ?_
        refine e_getR rfl h0 r7 ?_
        refine Eg.c1 rfl (by decide) (by decide) rfl (Nat.le_of_ble_eq_true rfl) (xrcv_of rfl hWd rfl) ((cs_remember hA hw).mono (by decide)) (fun r1 h1 hq => ?_)
        obtain ⟨rfl, I1, R1, rfl, hA1, i1, i1w, r1⟩ := hq
        have hS1 := hS.frR (R' := R1) (fun k _ => r1 s k (by omega) (by omega))
        have hV1 := hV.fr (I' := I1) (fun i k h1 h2 => i1 i k (by omega))
        rw [eb]
        refine e_aload rfl rfl ?_
        refine e_iload rfl rfl ?_
        refine e_iload rfl rfl ?_
        refine Eg.c3 rfl (by decide) (by decide) rfl (Nat.le_of_ble_eq_true rfl) (xrcv_of rfl hM.1 rfl) ((cs_fillFrom (I := I1) (R := R1) (m := w + 12) (s := s) hS1 hV1 hw hA1.2.1 hA1.2.2.1 hA1.2.2.2.1 (k := t) (b := b) ht hpb (by omega) (by omega)).mono (by decide)) (fun r1 h1 hq => ?_)
        obtain ⟨rfl, I2, rfl, hW2, i2⟩ := hq
        have ecs : fCost v t = (v 15 t - v 14 t) * pco v b := by unfold fCost; rw [ec, nI_clamp (by omega), eb, nI_clamp (by omega)]
        refine Eg.ret rfl (by decide) rfl (Or.inl ⟨?_, ?_, ?_⟩)
        · unfold gFill; rw [nI_clamp (by omega), ec, nI_clamp (by omega)]; exact ⟨b16, Decidable.not_not.mp b24, b42⟩
        · rw [nI_clamp (by omega), ecs]
        · rw [nI_clamp (by omega), ecs]; exact ACT.of hA1 (filF_agr (by omega)) hW2 (fun i k h1 => i2 i k (by omega)) (fun i k h1 h2 => i1 i k (by omega)) (fun q k h1 => r1 q k (by omega) (by omega))
      · refine e_ipush rfl ?_
        exact Eg.ret rfl (by decide) rfl (Or.inr ⟨fun q => by unfold gFill at q; rw [nI_clamp (by omega), ec, nI_clamp (by omega)] at q; exact q.2.2 b42, rfl, rfl⟩)
    · replace b24 := yn_n0.mp b24
      refine e_ipush rfl ?_
      exact Eg.ret rfl (by decide) rfl (Or.inr ⟨fun q => by unfold gFill at q; rw [nI_clamp (by omega)] at q; exact b24 q.2.1, rfl, rfl⟩)
def gFence (v : Nat → Nat → Int32) (x z : Int32) : Prop := ¬ (x < 0 ∨ nI (cn v 0) ≤ x) ∧ ¬ ((cn v 8).testBit x.toNatClampNeg = true ↔ ¬ z = 0)
def fenF (v : Nat → Nat → Int32) (c : Nat) : Nat → Nat → Int32 := xu v 1 8 (nI (cn v 8 ^^^ 1 <<< c))
theorem fenF_agr {c : Nat} : agr (fenF v c) v := by
  intro f i h
  rw [slot_iff] at h
  unfold fenF
  rw [xu_o (by omega)]
theorem bit_lt {c : Nat} (hc : c < 12) : 1 <<< c < 4096 := by
  rw [Nat.shiftLeft_eq, Nat.one_mul]
  exact Nat.pow_lt_pow_right (a := 2) (n := 12) (by decide) hc
theorem fen_lt {c F : Nat} (hc : c < 12) (hF : F < 4096) : F ^^^ 1 <<< c < 4096 := Nat.xor_lt_two_pow (n := 12) hF (bit_lt hc)
theorem fenF_8 {c : Nat} (hc : c < 12) (hF : cn v 8 < 4096) : cn (fenF v c) 8 = cn v 8 ^^^ 1 <<< c := by
  have := fen_lt hc hF
  unfold cn
  rw [show fenF v c 1 8 = nI (cn v 8 ^^^ 1 <<< c) from xu_at, nI_clamp (by omega)]; rfl
theorem fenF_wf {c : Nat} (hw : Wf v) (hc : c < 12) : Wf (fenF v c) := by
  have hb := hw.1.2
  have e1 : ∀ j, j ≠ 8 → fenF v c 1 j = v 1 j := fun j h => xu_o (Or.inr h)
  have e2 : ∀ f j, f ≠ 1 → fenF v c f j = v f j := fun f j h => xu_o (Or.inl h)
  refine hw.mk fenF_agr ⟨cn v 7, by omega, (e1 7 (by decide)).trans (hw.n (by decide))⟩ ⟨_, fen_lt hc (by omega), xu_at⟩ ⟨cn v 9, by omega, (e1 9 (by decide)).trans (hw.n (by decide))⟩ (fun j hj => ?_)
  rw [e2 13 j (by decide), e2 14 j (by decide)]
  exact hw.ships j hj
theorem MomV.fen {I' : Nat → Nat → Int32} {c : Nat} (h : MomV I m v) (hc : c < 12) (hF : cn v 8 < 4096) (g2 : I' m 2 = nI (cn v 8 ^^^ 1 <<< c)) (f2 : ∀ p t, p ≠ m ∨ t ≠ 2 → I' p t = I p t) : MomV I' m (fenF v c) := by
  obtain ⟨hH, hD⟩ := MomV_iff.mp h
  have ec : ∀ j, j ≠ 8 → cn (fenF v c) j = cn v j := fun j hj => by unfold cn; rw [show fenF v c 1 j = v 1 j from xu_o (Or.inr hj)]
  refine MomV_iff.mpr ⟨⟨?_, ?_, fun k hk => ?_⟩, ?_⟩
  · rw [ec 7 (by decide)]; exact (f2 m 1 (by omega)).trans hH.1
  · rw [fenF_8 hc hF]; exact g2
  · rw [ec 4 (by decide)] at hk
    rw [f2 _ _ (by omega), f2 _ _ (by omega), f2 _ _ (by omega), f2 _ _ (by omega), show fenF v c 13 k = v 13 k from xu_o (Or.inl (by decide)), show fenF v c 14 k = v 14 k from xu_o (Or.inl (by decide)), show fenF v c 17 k = v 17 k from xu_o (Or.inl (by decide)), show fenF v c 18 k = v 18 k from xu_o (Or.inl (by decide))]
    exact hH.2.2 k hk
  · rw [ec 9 (by decide), digL_ext (v := v) (V := fenF v c) (show xu v 1 8 _ 1 7 = v 1 7 from xu_o (Or.inr (by decide))) (fun f k h1 h2 => show xu v 1 8 _ f k = v f k from xu_o (Or.inl (by omega)))]
    exact hD.fr (f2 m 7 (by omega)) (fun i k h1 h2 => f2 i k (by omega))
theorem cf_fence {P : Nat → Int32} {a y : Nat} (hq : AQ sh I R w s y v P a) {x z : Int32} : Ec X 3 149 [.ref 0, .int x, .int z] (sh, I, L, R) (fun r h' => (gFence v x z ∧ r = some (.int 1) ∧ ACT sh I L R w s y (fenF v x.toNatClampNeg) (remP v P a) (remB a + 1) h') ∨ (¬ gFence v x z ∧ r = some (.int 0) ∧ h' = (sh, I, L, R))) := by
  obtain ⟨h0, r7, hWd, rm, hM, hms, hS, hV, hU, hw, hW⟩ := hq.cq
  obtain ⟨-, -, r12, hy, hw0, hwy, hsw, hR, hA, -⟩ := hq
  have hb := hw.1.2
  refine Ec.of (Nat.le_of_ble_eq_true rfl) ?_
  refine e_aload rfl rfl ?_
  refine e_getR rfl h0 r7 ?_
  refine e_getR rfl hWd rm ?_
  refine e_astore rfl ?_
  refine e_aload rfl rfl ?_
  refine e_getR rfl hM.1 hms ?_
  refine e_iload rfl rfl ?_
  refine Eg.p2 rfl (by decide) (by decide) rfl (Nat.le_of_ble_eq_true rfl) (xrcv_of rfl hS.1 rfl) ((cs_hasCellV hS hV).mono (by decide)) ?_
  refine e_ifeq_b rfl (fun b16 => ?_) (fun b16 => ?_)
  · replace b16 := yn_0.mp b16
    refine e_ipush rfl ?_
    exact Eg.ret rfl (by decide) rfl (Or.inr ⟨fun q => b16 q.1, rfl, rfl⟩)
  · replace b16 := yn_n0.mp b16
    obtain ⟨t, ht, et⟩ := nI_get b16 (by omega)
    subst et
    refine e_aload rfl rfl ?_
    refine e_getIv rfl hM.1 hW.2.1 ?_
    refine e_iload rfl rfl ?_
    refine e_ishr rfl ?_
    refine e_ipush rfl ?_
    refine e_iand rfl ?_
    rw [show ((nI (cn v 8)) >>> ((nI t) &&& 31)) &&& 1 = yn ((cn v 8).testBit t = true) from nI_bit (by omega) (by omega)]
    refine e_iload rfl rfl ?_
    refine e_ifeq_b rfl (fun b28 => ?_) (fun b28 => ?_)
    · refine e_ipush rfl ?_
      refine e_cne_b rfl (fun b36 => ?_) (fun b36 => ?_)
      · refine e_aload rfl rfl ?_
        refine e_getR rfl h0 r7 ?_
        refine Eg.c1 rfl (by decide) (by decide) rfl (Nat.le_of_ble_eq_true rfl) (xrcv_of rfl hWd rfl) ((cs_remember hA hw).mono (by decide)) (fun r1 h1 hq => ?_)
        obtain ⟨rfl, I1, R1, rfl, hA1, i1, i1w, r1⟩ := hq
        have hS1 := hS.frR (R' := R1) (fun k _ => r1 s k (by omega) (by omega))
        have hV1 := hV.fr (I' := I1) (fun i k h1 h2 => i1 i k (by omega))
        refine e_aload rfl rfl ?_
        refine e_dupr rfl ?_
        refine e_getIv rfl hM.1 hA1.2.2.2.1.2.1 ?_
        refine e_ipush rfl ?_
        refine e_iload rfl rfl ?_
        refine e_ishl rfl ?_
        rw [show 1 <<< ((nI t) &&& 31) = nI (1 <<< t) from (show nI 1 <<< (nI t &&& 31) = _ from nI_shl (by omega))]
        refine e_ixor rfl ?_
        rw [show (nI (cn v 8)) ^^^ (nI (1 <<< t)) = nI (cn v 8 ^^^ 1 <<< t) from nI_xor _ _]
        refine e_putIJ rfl hM.1 (fun J1 g1 f1 => ?_)
        refine e_ipush rfl ?_
        refine Eg.ret rfl (by decide) rfl (Or.inl ⟨?_, rfl, ?_⟩)
        · unfold gFence; rw [nI_clamp (by omega)]; exact ⟨b16, fun q => b36 (yn_f (fun q1 => q.mp q1 b28))⟩
        · rw [nI_clamp (by omega)]; exact ACT.of hA1 fenF_agr (hA1.2.2.2.1.fen (by omega) (by omega) g1 f1) (fun i k h1 => f1 i k (by omega)) (fun i k h1 h2 => i1 i k (by omega)) (fun q k h1 => r1 q k (by omega) (by omega))
      · refine e_ipush rfl ?_
        exact Eg.ret rfl (by decide) rfl (Or.inr ⟨fun q => by unfold gFence at q; rw [nI_clamp (by omega)] at q; exact q.2 ⟨fun q1 => absurd (yn_1.mpr q1) (by rw [b36]; decide), fun q1 => absurd b28 q1⟩, rfl, rfl⟩)
    · refine e_ipush rfl ?_
      refine e_goto rfl ?_
      refine e_cne_b rfl (fun b36 => ?_) (fun b36 => ?_)
      · refine e_aload rfl rfl ?_
        refine e_getR rfl h0 r7 ?_
        refine Eg.c1 rfl (by decide) (by decide) rfl (Nat.le_of_ble_eq_true rfl) (xrcv_of rfl hWd rfl) ((cs_remember hA hw).mono (by decide)) (fun r1 h1 hq => ?_)
        obtain ⟨rfl, I1, R1, rfl, hA1, i1, i1w, r1⟩ := hq
        have hS1 := hS.frR (R' := R1) (fun k _ => r1 s k (by omega) (by omega))
        have hV1 := hV.fr (I' := I1) (fun i k h1 h2 => i1 i k (by omega))
        refine e_aload rfl rfl ?_
        refine e_dupr rfl ?_
        refine e_getIv rfl hM.1 hA1.2.2.2.1.2.1 ?_
        refine e_ipush rfl ?_
        refine e_iload rfl rfl ?_
        refine e_ishl rfl ?_
        rw [show 1 <<< ((nI t) &&& 31) = nI (1 <<< t) from (show nI 1 <<< (nI t &&& 31) = _ from nI_shl (by omega))]
        refine e_ixor rfl ?_
        rw [show (nI (cn v 8)) ^^^ (nI (1 <<< t)) = nI (cn v 8 ^^^ 1 <<< t) from nI_xor _ _]
        refine e_putIJ rfl hM.1 (fun J2 g2 f2 => ?_)
        refine e_ipush rfl ?_
        refine Eg.ret rfl (by decide) rfl (Or.inl ⟨?_, rfl, ?_⟩)
        · unfold gFence; rw [nI_clamp (by omega)]; exact ⟨b16, fun q => b36 (yn_t (q.mpr b28))⟩
        · rw [nI_clamp (by omega)]; exact ACT.of hA1 fenF_agr (hA1.2.2.2.1.fen (by omega) (by omega) g2 f2) (fun i k h1 => f2 i k (by omega)) (fun i k h1 h2 => i1 i k (by omega)) (fun q k h1 => r1 q k (by omega) (by omega))
      · refine e_ipush rfl ?_
        exact Eg.ret rfl (by decide) rfl (Or.inr ⟨fun q => by unfold gFence at q; rw [nI_clamp (by omega)] at q; exact q.2 ⟨fun _ => b28, fun _ => yn_1.mp b36⟩, rfl, rfl⟩)
end CB
