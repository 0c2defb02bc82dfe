/-! ACTS, the one side -/
section CA
variable {X : xX} {h : xH} {sh : List (Nat × Nat)} {I : Nat → Nat → Int32} {L : Nat → Nat → Int64} {R : Nat → Nat → Option Nat} {v : Nat → Nat → Int32} {w s m : Nat}
def gSail (v : Nat → Nat → Int32) (x y : Int32) : Prop := ¬ (x < 0 ∨ nI (cn v 4) ≤ x) ∧ v 18 x.toNatClampNeg = -1 ∧ ¬ cn v 7 = 9999 ∧ (y = 0 ∨ ((y = 1 ∨ y = -1) ∧ canF v x.toNatClampNeg (v 13 x.toNatClampNeg + y) = true))
def one (t : Nat) (y : Int32) (k : Nat) : Int32 := if k = t then y else 0
/-- what an act leaves -/
def ACT (sh : List (Nat × Nat)) (I : Nat → Nat → Int32) (L : Nat → Nat → Int64) (R : Nat → Nat → Option Nat) (w s y : Nat) (v : Nat → Nat → Int32) (P : Nat → Int32) (a : Nat) (h' : xH) : Prop := ∃ I' R', h' = (sh, I', L, R') ∧ WRel sh I' R' w s v P a ∧ (∀ i k, i < w ∨ w + 200 < i → i ≠ y → I' i k = I i k) ∧ ∀ x k, x < w ∨ w + 200 < x → R' x k = R x k
/-- what an act needs: the world w, its sea s, the row of ways y -/
def AQ (sh : List (Nat × Nat)) (I : Nat → Nat → Int32) (R : Nat → Nat → Option Nat) (w s y : Nat) (v : Nat → Nat → Int32) (P : Nat → Int32) (a : Nat) : Prop := sh[0]? = some (11, 13) ∧ R 0 7 = some w ∧ R 0 12 = some y ∧ sh[y]? = some (20, 4) ∧ 0 < w ∧ w + 200 < y ∧ (s + 12 < w ∨ y < s) ∧ SeaR sh I R s v ∧ WRel sh I R w s v P a ∧ Wf v
theorem AQ.cq {P : Nat → Int32} {a y : Nat} (h : AQ sh I R w s y v P a) : CQ sh I R w (w + 12) s v := by
  obtain ⟨h0, r7, r12, hy, hw0, hwy, hsw, hR, hA, hw⟩ := h
  exact ⟨h0, r7, hA.1.1, hA.1.2.1, hA.2.1, hA.2.2.1, hR.1, hR.2.1, hR.2.2, hw, hA.2.2.2.1⟩
theorem dayF_g {g g' : Nat → Int32} (h : ∀ k, k < cn v 4 → g k = g' k) : dayF v g = dayF v g' := by
  unfold dayF
  congr 1
  have : ∀ n, n ≤ cn v 4 → dayW v g n = dayW v g' n := by
    intro n
    induction n with
    | zero => intro _; rfl
    | succ n ih =>
      intro hn
      show dstep g n (dayW v g n) = dstep g' n (dayW v g' n)
      rw [ih (by omega)]
      unfold dstep
      rw [h n (by omega)]
  exact this _ (Nat.le_refl _)
theorem dayF_agr {g : Nat → Int32} (h4 : cn v 4 ≤ 4) : agr (dayF v g) v := by
  intro f i h
  rw [slot_iff] at h
  rw [dayF_o (by omega)]
  by_cases hf : f ≠ 13 ∧ f ≠ 14 ∧ f ≠ 18
  · exact dayW_o (Or.inl hf)
  · exact dayW_o (Or.inr (by omega))
theorem cf_sail {P : Nat → Int32} {a y : Nat} (hq : AQ sh I R w s y v P a) (h99 : cn v 7 ≤ 9999) {x z : Int32} : Ec X 5 147 [.ref 0, .int x, .int z] (sh, I, L, R) (fun r h' => (gSail v x z ∧ r = some (.int (nI (cn v 7 + 1))) ∧ ACT sh I L R w s y (dayF v (one x.toNatClampNeg z)) (remP v P a) (remB a + 1) h') ∨ (¬ gSail v x z ∧ r = some (.int (-1)) ∧ h' = (sh, I, L, R))) := by
  obtain ⟨h0, r7, hWd, rm, hM, hms, hS, hV, hU, hw, hW⟩ := hq.cq
  obtain ⟨-, -, r12, hy, hw0, hwy, hsw, hR, hA, -⟩ := hq
  have hb := hw.1.2
  refine Ec.of (Nat.le_of_ble_eq_true rfl) ?_
  refine e_aload rfl rfl ?_
  refine e_getR rfl h0 r7 ?_
  refine e_getR rfl hWd rm ?_
  refine e_astore rfl ?_
  refine e_aload rfl rfl ?_
  refine e_getR rfl hM.1 hms ?_
  refine e_iload rfl rfl ?_
  refine Eg.p2 rfl (by decide) (by decide) rfl (Nat.le_of_ble_eq_true rfl) (xrcv_of rfl hS.1 rfl) ((cs_hasShipV hS hV).mono (by decide)) ?_
  refine e_ifeq_b rfl (fun b16 => ?_) (fun b16 => ?_)
  · replace b16 := yn_0.mp b16
    refine e_ipush rfl ?_
    exact Eg.ret rfl (by decide) rfl (Or.inr ⟨fun q => b16 q.1, rfl, rfl⟩)
  · replace b16 := yn_n0.mp b16
    obtain ⟨t, ht, et⟩ := nI_get b16 (by omega)
    subst et
    refine e_aload rfl rfl ?_
    refine e_iload rfl rfl ?_
    refine Eg.p2 rfl (by decide) (by decide) rfl (Nat.le_of_ble_eq_true rfl) (xrcv_of rfl hM.1 rfl) ((cs_isDry hS hV hw hM hms hW (k := t) (by omega)).mono (by decide)) ?_
    refine e_ifne_b rfl (fun b24 => ?_) (fun b24 => ?_)
    · replace b24 := yn_n0.mp b24
      refine e_ipush rfl ?_
      exact Eg.ret rfl (by decide) rfl (Or.inr ⟨fun q => by unfold gSail at q; rw [nI_clamp (by omega)] at q; exact b24 q.2.1, rfl, rfl⟩)
    · replace b24 := yn_0.mp b24
      refine e_aload rfl rfl ?_
      refine e_getIv rfl hM.1 hW.1 ?_
      refine e_ipush rfl ?_
      refine e_clt_b rfl (fun b34 => ?_) (fun b34 => ?_)
      · have b34 : ¬ cn v 7 = 9999 := fun q => by rw [q] at b34; exact absurd b34 (by decide)
        refine e_iload rfl rfl ?_
        refine e_ifeq_b rfl (fun b40 => ?_) (fun b40 => ?_)
        · have gg : gSail v (nI t) z := by
            unfold gSail; rw [nI_clamp (by omega)]
            exact ⟨b16, Decidable.not_not.mp b24, b34, Or.inl b40⟩
          refine e_aload rfl rfl ?_
          refine e_getR rfl h0 r7 ?_
          refine Eg.c1 rfl (by decide) (by decide) rfl (Nat.le_of_ble_eq_true rfl) (xrcv_of rfl hWd rfl) ((cs_remember hA hw).mono (by decide)) (fun r1 h1 hq => ?_)
          obtain ⟨rfl, I1, R1, rfl, hA1, i1, i1w, r1⟩ := hq
          have hS1 := hS.frR (R' := R1) (fun k _ => r1 s k (by omega) (by omega))
          have hV1 := hV.fr (I' := I1) (fun i k h1 h2 => i1 i k (by omega))
          refine e_aload rfl rfl ?_
          refine e_getR rfl h0 ((r1 0 12 (by omega) (by omega)).trans r12) ?_
          refine e_ipush rfl ?_
          refine Eg.c2 rfl (by decide) (by decide) rfl (Nat.le_of_ble_eq_true rfl) (xrcv_ofs (Or.inl rfl)) ((cs_fill (I := I1) (R := R1) (a := y) (x := 0) hy (by decide)).mono (by decide)) (fun r1 h1 hq => ?_)
          obtain ⟨rfl, I2, rfl, i2, i2o⟩ := hq
          refine e_aload rfl rfl ?_
          refine e_getR rfl h0 ((r1 0 12 (by omega) (by omega)).trans r12) ?_
          refine e_iload rfl rfl ?_
          refine e_iload rfl rfl ?_
          refine e_iasJ (t := t) (n := 4) rfl hy rfl (by omega) (by decide) (fun J1 g1 f1 => ?_)
          refine e_aload rfl rfl ?_
          refine e_aload rfl rfl ?_
          refine e_getR rfl h0 ((r1 0 12 (by omega) (by omega)).trans r12) ?_
          refine Eg.c2 rfl (by decide) (by decide) rfl (Nat.le_of_ble_eq_true rfl) (xrcv_of rfl hM.1 rfl) ((cs_passDay (v := v) (s := s) (m := w + 12) (y := y) hA1.2.1 hA1.2.2.1 hS1 ((f1 s 4 (by omega)).trans ((i2o s 4 (by omega)).trans (hV1.1 4 (by decide)))) (by omega) (by omega) (by omega) (hw.n (by decide)) (hA1.2.2.2.1.fr (fun i k h1 h2 => (f1 i k (by omega)).trans (i2o i k (by omega)))) hy (by omega) (by omega)).mono (by decide)) (fun r1 h1 hq => ?_)
          obtain ⟨rfl, I4, rfl, hW4, i4⟩ := hq
          have eg : dayF v (J1 y) = dayF v (one t z) := dayF_g (fun k hk => ?_)
          rotate_left
          · unfold one
            by_cases e : k = t
            · rw [if_pos e, e]; exact g1
            · rw [if_neg e]; exact (f1 y k (Or.inr e)).trans (i2 k (by omega))
          rw [eg] at hW4
          refine e_aload rfl rfl ?_
          refine e_getIv rfl hM.1 hW4.1 ?_
          have e7 : nI (cn (dayF v (one t z)) 7) = nI (cn v 7 + 1) := by rw [dayF_7 (by omega)]
          refine Eg.ret rfl (by decide) rfl (Or.inl ⟨gg, congrArg (fun q => some (Value.int q)) e7, I4, R1, rfl, ?_, fun i k h1 h2 => ?_, fun q k h1 => r1 q k (by omega) (by omega)⟩)
          · rw [nI_clamp (by omega)]
            have hI : ∀ i k, i ≠ y → (i < w + 12 ∨ w + 20 < i) → I4 i k = I1 i k := fun i k h1 h2 => (i4 i k (by omega)).trans ((f1 i k (Or.inl h1)).trans (i2o i k h1))
            obtain ⟨b1, b2, b3, b4, b5, b6, b7, p, b8⟩ := hA1
            refine ⟨b1, b2, b3, hW4, (b5.fr (fun i k h1 h2 => hI i k (by omega) (by omega))).ex (dayF_agr (by omega)), (hI w 2 (by omega) (by omega)).trans b6, b7, p, PastR.ex (v := v) ⟨b8.1, b8.2.1, b8.2.2.1, fun i hi => ?_⟩ (dayF_agr (by omega))⟩
            obtain ⟨q1, q2⟩ := b8.2.2.2 i hi
            have := (b8.1 i (by omega)).1
            exact ⟨q1, q2.fr (fun j k h1 h2 => hI j k (by omega) (by omega))⟩
          · exact (i4 i k (by omega)).trans ((f1 i k (Or.inl h2)).trans ((i2o i k h2).trans (i1 i k (by omega))))
        · refine e_aload rfl rfl ?_
          refine e_iload rfl rfl ?_
          refine e_iload rfl rfl ?_
          refine Eg.p3 rfl (by decide) (by decide) rfl (Nat.le_of_ble_eq_true rfl) (xrcv_of rfl hM.1 rfl) ((cs_mayGo hS hV hw hM hms hW (k := t) (by omega)).mono (by decide)) ?_
          refine e_ifne_b rfl (fun b49 => ?_) (fun b49 => ?_)
          · replace b49 := yn_n0.mp b49
            have gg : gSail v (nI t) z := by
              unfold gSail; rw [nI_clamp (by omega)]
              exact ⟨b16, Decidable.not_not.mp b24, b34, Or.inr b49⟩
            refine e_aload rfl rfl ?_
            refine e_getR rfl h0 r7 ?_
            refine Eg.c1 rfl (by decide) (by decide) rfl (Nat.le_of_ble_eq_true rfl) (xrcv_of rfl hWd rfl) ((cs_remember hA hw).mono (by decide)) (fun r1 h1 hq => ?_)
            obtain ⟨rfl, I1, R1, rfl, hA1, i1, i1w, r1⟩ := hq
            have hS1 := hS.frR (R' := R1) (fun k _ => r1 s k (by omega) (by omega))
            have hV1 := hV.fr (I' := I1) (fun i k h1 h2 => i1 i k (by omega))
            refine e_aload rfl rfl ?_
            refine e_getR rfl h0 ((r1 0 12 (by omega) (by omega)).trans r12) ?_
            refine e_ipush rfl ?_
            refine Eg.c2 rfl (by decide) (by decide) rfl (Nat.le_of_ble_eq_true rfl) (xrcv_ofs (Or.inl rfl)) ((cs_fill (I := I1) (R := R1) (a := y) (x := 0) hy (by decide)).mono (by decide)) (fun r1 h1 hq => ?_)
            obtain ⟨rfl, I2, rfl, i2, i2o⟩ := hq
            refine e_aload rfl rfl ?_
            refine e_getR rfl h0 ((r1 0 12 (by omega) (by omega)).trans r12) ?_
            refine e_iload rfl rfl ?_
            refine e_iload rfl rfl ?_
            refine e_iasJ (t := t) (n := 4) rfl hy rfl (by omega) (by decide) (fun J2 g2 f2 => ?_)
            refine e_aload rfl rfl ?_
            refine e_aload rfl rfl ?_
            refine e_getR rfl h0 ((r1 0 12 (by omega) (by omega)).trans r12) ?_
            refine Eg.c2 rfl (by decide) (by decide) rfl (Nat.le_of_ble_eq_true rfl) (xrcv_of rfl hM.1 rfl) ((cs_passDay (v := v) (s := s) (m := w + 12) (y := y) hA1.2.1 hA1.2.2.1 hS1 ((f2 s 4 (by omega)).trans ((i2o s 4 (by omega)).trans (hV1.1 4 (by decide)))) (by omega) (by omega) (by omega) (hw.n (by decide)) (hA1.2.2.2.1.fr (fun i k h1 h2 => (f2 i k (by omega)).trans (i2o i k (by omega)))) hy (by omega) (by omega)).mono (by decide)) (fun r1 h1 hq => ?_)
            obtain ⟨rfl, I4, rfl, hW4, i4⟩ := hq
            have eg : dayF v (J2 y) = dayF v (one t z) := dayF_g (fun k hk => ?_)
            rotate_left
            · unfold one
              by_cases e : k = t
              · rw [if_pos e, e]; exact g2
              · rw [if_neg e]; exact (f2 y k (Or.inr e)).trans (i2 k (by omega))
            rw [eg] at hW4
            refine e_aload rfl rfl ?_
            refine e_getIv rfl hM.1 hW4.1 ?_
            have e7 : nI (cn (dayF v (one t z)) 7) = nI (cn v 7 + 1) := by rw [dayF_7 (by omega)]
            refine Eg.ret rfl (by decide) rfl (Or.inl ⟨gg, congrArg (fun q => some (Value.int q)) e7, I4, R1, rfl, ?_, fun i k h1 h2 => ?_, fun q k h1 => r1 q k (by omega) (by omega)⟩)
            · rw [nI_clamp (by omega)]
              have hI : ∀ i k, i ≠ y → (i < w + 12 ∨ w + 20 < i) → I4 i k = I1 i k := fun i k h1 h2 => (i4 i k (by omega)).trans ((f2 i k (Or.inl h1)).trans (i2o i k h1))
              obtain ⟨b1, b2, b3, b4, b5, b6, b7, p, b8⟩ := hA1
              refine ⟨b1, b2, b3, hW4, (b5.fr (fun i k h1 h2 => hI i k (by omega) (by omega))).ex (dayF_agr (by omega)), (hI w 2 (by omega) (by omega)).trans b6, b7, p, PastR.ex (v := v) ⟨b8.1, b8.2.1, b8.2.2.1, fun i hi => ?_⟩ (dayF_agr (by omega))⟩
              obtain ⟨q1, q2⟩ := b8.2.2.2 i hi
              have := (b8.1 i (by omega)).1
              exact ⟨q1, q2.fr (fun j k h1 h2 => hI j k (by omega) (by omega))⟩
            · exact (i4 i k (by omega)).trans ((f2 i k (Or.inl h2)).trans ((i2o i k h2).trans (i1 i k (by omega))))
          · replace b49 := yn_0.mp b49
            refine e_ipush rfl ?_
            exact Eg.ret rfl (by decide) rfl (Or.inr ⟨fun q => by unfold gSail at q; rw [nI_clamp (by omega)] at q; exact q.2.2.2.elim b40 b49, rfl, rfl⟩)
      · have b34 : cn v 7 = 9999 := Decidable.byContradiction (fun q => b34 (nI_lt (b := 9999) (by omega) (by decide)))
        refine e_ipush rfl ?_
        exact Eg.ret rfl (by decide) rfl (Or.inr ⟨fun q => by unfold gSail at q; rw [nI_clamp (by omega)] at q; exact q.2.2.1 b34, rfl, rfl⟩)
theorem cf_undo {P : Nat → Int32} {a y : Nat} (hq : AQ sh I R w s y v P a) (hpw : ∀ i, i < a → Wf (pvw P v i)) : Ec X 3 151 [.ref 0] (sh, I, L, R) (fun r h' => r = some (.int (if a = 0 then -2 else nI (a - 1))) ∧ ACT sh I L R w s y (if a = 0 then v else pvw P v (a - 1)) P (a - 1) h') := by
  obtain ⟨h0, r7, hWd, rm, hM, hms, hS, hV, hU, hw, hW⟩ := hq.cq
  obtain ⟨-, -, r12, hy, hw0, hwy, hsw, hR, hA, -⟩ := hq
  have hb := hw.1.2
  refine Ec.of (Nat.le_of_ble_eq_true rfl) ?_
  refine e_aload rfl rfl ?_
  refine e_getR rfl h0 r7 ?_
  refine Eg.c1 rfl (by decide) (by decide) rfl (Nat.le_of_ble_eq_true rfl) (xrcv_of rfl hWd rfl) ((cs_forgetLast hA hpw).mono (by decide)) (fun r1 h1 hq => ?_)
  obtain ⟨rfl, I1, R1, rfl, hA1, i1, i1w, r1⟩ := hq
  have hact : ACT sh I L R w s y (if a = 0 then v else pvw P v (a - 1)) P (a - 1) (sh, I1, L, R1) := ⟨I1, R1, rfl, hA1, fun i k h1 h2 => i1 i k (by omega), fun q k h1 => r1 q k (by omega)⟩
  refine e_ifeq_b rfl (fun b7 => ?_) (fun b7 => ?_)
  · replace b7 := yn_0.mp b7
    refine e_ipush rfl ?_
    exact Eg.ret rfl (by decide) rfl ⟨congrArg (fun q => some (Value.int q)) ((if_pos (Decidable.not_not.mp b7)).symm), hact⟩
  · replace b7 := yn_n0.mp b7
    refine e_aload rfl rfl ?_
    refine e_getR rfl h0 ((r1 0 7 (by omega)).trans r7) ?_
    refine e_getIv rfl hWd hA1.2.2.2.2.2.1 ?_
    refine e_goto rfl ?_
    exact Eg.ret rfl (by decide) rfl ⟨congrArg (fun q => some (Value.int q)) ((if_neg b7).symm), hact⟩
end CA
