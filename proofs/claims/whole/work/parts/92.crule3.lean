/-! A RULE read, the one side: comparisons, facts -/
section CR3x
variable {X : xX} {h : xH} {sh : List (Nat × Nat)} {I : Nat → Nat → Int32} {L : Nat → Nat → Int64} {R : Nat → Nat → Option Nat} {B : Nat → Nat} {n E ru : Nat} {st : rS}
theorem cs_readSum (hT : TpAt sh R) (hA : RRAt sh R ru) (hU : RuAt sh R ru) (hr : Cst I B n E ru st) : Ec X 3 76 [.ref 7] (sh, I, L, R) (fun r h' => r = none ∧ ∃ J : Nat → Nat → Int32, h' = (sh, J, L, R) ∧ rRes I J B n E ru (rSum B n st)) := by
  obtain ⟨hp, hn⟩ := hr.le
  have hbd := hr.2.2.2.2.1
  refine Ec.of (Nat.le_of_ble_eq_true rfl) ?_
  refine e_ipush rfl ?_
  refine e_istore rfl ?_
  refine e_ipush rfl ?_
  refine e_istore rfl ?_
  refine e_ipush rfl ?_
  refine e_istore rfl ?_
  refine e_ipush rfl ?_
  refine e_istore rfl ?_
  refine Eg.pk [0, 1, 2, 3, 4] [4, 3, 2, 1, 0] rfl (by decide) ?_
  rw [← cnR_0]
  exact cs_sumLoop hT hA hU _ 401 401 0 0 0 st I rfl (by omega) (by omega) (Or.inl rfl) (Or.inl rfl) (by omega) (by simpa using hbd) hr
theorem Csw.go {J : Nat → Nat → Int32} {F : Int32} {p : Nat} (h : Csw I B n E ru F) (hr : 9 ≤ ru) (hj : Rd J B n E p F) (f : RdF I J) : Csw J B n E ru F := by
  obtain ⟨h0x, p, c, l, h1x, h2x, h3x, h4x, h5x⟩ := h
  exact ⟨h0x, _, c, l, hj, (f 7 2 (by decide)).trans h2x, h3x, (f ru 1 (by omega)).trans h4x, h5x⟩
theorem cmS_0 {p : Nat} : cmS B n p = 0 ↔ (¬ sgH B n p = 60 ∧ ¬ sgH B n p = 61 ∧ ¬ sgH B n p = 62 ∧ ¬ sgH B n p = 316 ∧ ¬ sgH B n p = 318) := by
  unfold cmS
  constructor
  · intro h
    split at h
    · cases h
    · split at h
      · cases h
      · split at h
        · cases h
        · split at h
          · cases h
          · split at h
            · cases h
            · refine ⟨?_, ?_, ?_, ?_, ?_⟩ <;> assumption
  · rintro ⟨a, b, c, d, e⟩
    rw [if_neg a, if_neg d, if_neg b, if_neg e, if_neg c]
theorem cmS_pc {p : Nat} (h : ¬ cmS B n p = 0) : sgH B n p = pcE (cmS B n p, 0) := by
  unfold cmS at h ⊢
  split
  · rename_i q; rw [q]; rfl
  · split
    · rename_i q; rw [q]; rfl
    · split
      · rename_i q; rw [q]; rfl
      · split
        · rename_i q; rw [q]; rfl
        · split
          · rename_i q; rw [q]; rfl
          · rename_i a b c d e; rw [if_neg a, if_neg b, if_neg c, if_neg d, if_neg e] at h; exact absurd rfl h
theorem cs_stepW (hT : TpAt sh R) (hA : RRAt sh R ru) (hU : RuAt sh R ru) {F : Int32} (hw : Csw I B n E ru F) : Ec X 1 121 [.ref 1] (sh, I, L, R) (fun r h' => r = none ∧ ∃ J : Nat → Nat → Int32, h' = (sh, J, L, R) ∧ Csw J B n E ru F ∧ QFr I J ru) := by
  obtain ⟨h0x, p, -, -, r0x, -⟩ := id hw
  refine (cs_step hT r0x).imp ?_
  rintro r h' ⟨rfl, J, rfl, g1x, g2x⟩
  exact ⟨rfl, J, rfl, hw.go hA.2.2.2 g1x g2x, QFr.of g2x⟩
theorem cs_failW (hT : TpAt sh R) (hA : RRAt sh R ru) (hU : RuAt sh R ru) {F : Int32} (hw : Csw I B n E ru F) {k : Nat} : Ec X 1 120 [.ref 1, .int (nI k)] (sh, I, L, R) (fun r h' => r = none ∧ ∃ J : Nat → Nat → Int32, h' = (sh, J, L, R) ∧ Csw J B n E ru F ∧ QFr I J ru) := by
  obtain ⟨h0x, p, -, -, r0x, -⟩ := id hw
  refine (cs_fail hT r0x).imp ?_
  rintro r h' ⟨rfl, J, rfl, g1x, g2x⟩
  rw [fl_n h0x] at g1x
  exact ⟨rfl, J, rfl, hw.go hA.2.2.2 g1x g2x, QFr.of g2x⟩
theorem cs_takeSignW (hT : TpAt sh R) (hA : RRAt sh R ru) (hU : RuAt sh R ru) {F c : Int32} (hw : Csw I B n E ru F) : Ec X 2 129 [.ref 1, .int c] (sh, I, L, R) (fun r h' => r = none ∧ ∃ J : Nat → Nat → Int32, h' = (sh, J, L, R) ∧ Csw J B n E ru F ∧ QFr I J ru) := by
  obtain ⟨h0x, p, -, -, r0x, -⟩ := id hw
  refine (cs_takeSign hT r0x).imp ?_
  rintro r h' ⟨rfl, J, rfl, g1x, g2x⟩
  rw [fl_n h0x, ite_self] at g1x
  exact ⟨rfl, J, rfl, hw.go hA.2.2.2 g1x g2x, QFr.of g2x⟩
theorem cs_takeCmpW (hT : TpAt sh R) (hA : RRAt sh R ru) (hU : RuAt sh R ru) {F : Int32} (hw : Csw I B n E ru F) : Ec X 2 75 [.ref 7] (sh, I, L, R) (fun r h' => (∃ x, r = some (.int x)) ∧ ∃ J : Nat → Nat → Int32, h' = (sh, J, L, R) ∧ Csw J B n E ru F ∧ QFr I J ru) := by
  obtain ⟨h0x, p, c, l, hr, h2x, h3x, h4x, h5x⟩ := id hw
  have h9x := hA.2.2.2
  refine Ec.of (Nat.le_of_ble_eq_true rfl) ?_
  refine e_aload rfl rfl ?_
  refine e_getR rfl hA.1 hA.2.1 ?_
  refine Eg.p1 rfl (by decide) (by decide) rfl (Nat.le_of_ble_eq_true rfl) (xrcv_of rfl hT.1 rfl) ((cs_signHere hT hr).mono (by decide)) ?_
  refine e_istore rfl ?_
  refine e_iload rfl rfl ?_
  refine e_ipush rfl ?_
  refine e_ceq_b rfl (fun b11x => ?_) (fun b11x => ?_)
  · refine e_aload rfl rfl ?_
    refine e_getIv rfl hA.1 h2x ?_
    refine e_ipush rfl ?_
    refine e_clt_b rfl (fun b57x => ?_) (fun b57x => ?_)
    · have b57x := (nI_lti (b := 60) (by omega) (by decide)).mp b57x
      refine e_aload rfl rfl ?_
      refine e_dupr rfl ?_
      refine e_getIv rfl hA.1 h2x ?_
      refine e_ipush rfl ?_
      refine e_iadd rfl ?_
      rw [show (nI c) + 1 = nI (c + 1) from nI_1 _]
      refine e_putIJ rfl hA.1 (fun J21x g21x f21x => ?_)
      refine e_aload rfl rfl ?_
      refine e_getR rfl hA.1 hA.2.1 ?_
      refine Eg.c1 rfl (by decide) (by decide) rfl (Nat.le_of_ble_eq_true rfl) (xrcv_of rfl hT.1 rfl) ((cs_step hT (hr.any (fun i k hi => f21x i k (by omega)))).mono (by decide)) (fun r1x h1x hq => ?_)
      obtain ⟨rfl, G, rfl, g1x, g2x⟩ := hq
      refine e_iload rfl rfl ?_
      have kg : ∀ i k, (i ≠ 1 ∨ (k ≠ 2 ∧ k ≠ 7)) → (i ≠ 7 ∨ k ≠ 2) → G i k = I i k := fun i k a b => (g2x i k a).trans (f21x i k b)
      exact Eg.ret rfl (by decide) rfl ⟨⟨_, rfl⟩, G, rfl, ⟨h0x, _, c + 1, l, g1x, (g2x 7 2 (by decide)).trans g21x, by omega, (kg ru 1 (by omega) (by omega)).trans h4x, h5x⟩, fun i k a b c d => kg i k a b⟩
    · refine e_aload rfl rfl ?_
      refine e_getR rfl hA.1 hA.2.1 ?_
      refine e_ipush rfl ?_
      refine Eg.c2 rfl (by decide) (by decide) rfl (Nat.le_of_ble_eq_true rfl) (xrcv_of rfl hT.1 rfl) ((cs_failW hT hA hU hw (k := 3)).mono (by decide)) (fun r1x h1x hq => ?_)
      obtain ⟨rfl, J, rfl, v1x, k1x⟩ := hq
      refine e_goto rfl ?_
      refine e_iload rfl rfl ?_
      exact Eg.ret rfl (by decide) rfl ⟨⟨_, rfl⟩, J, rfl, v1x, k1x⟩
  · refine e_iload rfl rfl ?_
    refine e_ipush rfl ?_
    refine e_ceq_b rfl (fun b17x => ?_) (fun b17x => ?_)
    · refine e_aload rfl rfl ?_
      refine e_getIv rfl hA.1 h2x ?_
      refine e_ipush rfl ?_
      refine e_clt_b rfl (fun b57x => ?_) (fun b57x => ?_)
      · have b57x := (nI_lti (b := 60) (by omega) (by decide)).mp b57x
        refine e_aload rfl rfl ?_
        refine e_dupr rfl ?_
        refine e_getIv rfl hA.1 h2x ?_
        refine e_ipush rfl ?_
        refine e_iadd rfl ?_
        rw [show (nI c) + 1 = nI (c + 1) from nI_1 _]
        refine e_putIJ rfl hA.1 (fun J22x g22x f22x => ?_)
        refine e_aload rfl rfl ?_
        refine e_getR rfl hA.1 hA.2.1 ?_
        refine Eg.c1 rfl (by decide) (by decide) rfl (Nat.le_of_ble_eq_true rfl) (xrcv_of rfl hT.1 rfl) ((cs_step hT (hr.any (fun i k hi => f22x i k (by omega)))).mono (by decide)) (fun r1x h1x hq => ?_)
        obtain ⟨rfl, G, rfl, g1x, g2x⟩ := hq
        refine e_iload rfl rfl ?_
        have kg : ∀ i k, (i ≠ 1 ∨ (k ≠ 2 ∧ k ≠ 7)) → (i ≠ 7 ∨ k ≠ 2) → G i k = I i k := fun i k a b => (g2x i k a).trans (f22x i k b)
        exact Eg.ret rfl (by decide) rfl ⟨⟨_, rfl⟩, G, rfl, ⟨h0x, _, c + 1, l, g1x, (g2x 7 2 (by decide)).trans g22x, by omega, (kg ru 1 (by omega) (by omega)).trans h4x, h5x⟩, fun i k a b c d => kg i k a b⟩
      · refine e_aload rfl rfl ?_
        refine e_getR rfl hA.1 hA.2.1 ?_
        refine e_ipush rfl ?_
        refine Eg.c2 rfl (by decide) (by decide) rfl (Nat.le_of_ble_eq_true rfl) (xrcv_of rfl hT.1 rfl) ((cs_failW hT hA hU hw (k := 3)).mono (by decide)) (fun r1x h1x hq => ?_)
        obtain ⟨rfl, J, rfl, v1x, k1x⟩ := hq
        refine e_goto rfl ?_
        refine e_iload rfl rfl ?_
        exact Eg.ret rfl (by decide) rfl ⟨⟨_, rfl⟩, J, rfl, v1x, k1x⟩
    · refine e_iload rfl rfl ?_
      refine e_ipush rfl ?_
      refine e_ceq_b rfl (fun b23x => ?_) (fun b23x => ?_)
      · refine e_aload rfl rfl ?_
        refine e_getIv rfl hA.1 h2x ?_
        refine e_ipush rfl ?_
        refine e_clt_b rfl (fun b57x => ?_) (fun b57x => ?_)
        · have b57x := (nI_lti (b := 60) (by omega) (by decide)).mp b57x
          refine e_aload rfl rfl ?_
          refine e_dupr rfl ?_
          refine e_getIv rfl hA.1 h2x ?_
          refine e_ipush rfl ?_
          refine e_iadd rfl ?_
          rw [show (nI c) + 1 = nI (c + 1) from nI_1 _]
          refine e_putIJ rfl hA.1 (fun J23x g23x f23x => ?_)
          refine e_aload rfl rfl ?_
          refine e_getR rfl hA.1 hA.2.1 ?_
          refine Eg.c1 rfl (by decide) (by decide) rfl (Nat.le_of_ble_eq_true rfl) (xrcv_of rfl hT.1 rfl) ((cs_step hT (hr.any (fun i k hi => f23x i k (by omega)))).mono (by decide)) (fun r1x h1x hq => ?_)
          obtain ⟨rfl, G, rfl, g1x, g2x⟩ := hq
          refine e_iload rfl rfl ?_
          have kg : ∀ i k, (i ≠ 1 ∨ (k ≠ 2 ∧ k ≠ 7)) → (i ≠ 7 ∨ k ≠ 2) → G i k = I i k := fun i k a b => (g2x i k a).trans (f23x i k b)
          exact Eg.ret rfl (by decide) rfl ⟨⟨_, rfl⟩, G, rfl, ⟨h0x, _, c + 1, l, g1x, (g2x 7 2 (by decide)).trans g23x, by omega, (kg ru 1 (by omega) (by omega)).trans h4x, h5x⟩, fun i k a b c d => kg i k a b⟩
        · refine e_aload rfl rfl ?_
          refine e_getR rfl hA.1 hA.2.1 ?_
          refine e_ipush rfl ?_
          refine Eg.c2 rfl (by decide) (by decide) rfl (Nat.le_of_ble_eq_true rfl) (xrcv_of rfl hT.1 rfl) ((cs_failW hT hA hU hw (k := 3)).mono (by decide)) (fun r1x h1x hq => ?_)
          obtain ⟨rfl, J, rfl, v1x, k1x⟩ := hq
          refine e_goto rfl ?_
          refine e_iload rfl rfl ?_
          exact Eg.ret rfl (by decide) rfl ⟨⟨_, rfl⟩, J, rfl, v1x, k1x⟩
      · refine e_iload rfl rfl ?_
        refine e_ipush rfl ?_
        refine e_ceq_b rfl (fun b30x => ?_) (fun b30x => ?_)
        · refine e_aload rfl rfl ?_
          refine e_getIv rfl hA.1 h2x ?_
          refine e_ipush rfl ?_
          refine e_clt_b rfl (fun b57x => ?_) (fun b57x => ?_)
          · have b57x := (nI_lti (b := 60) (by omega) (by decide)).mp b57x
            refine e_aload rfl rfl ?_
            refine e_dupr rfl ?_
            refine e_getIv rfl hA.1 h2x ?_
            refine e_ipush rfl ?_
            refine e_iadd rfl ?_
            rw [show (nI c) + 1 = nI (c + 1) from nI_1 _]
            refine e_putIJ rfl hA.1 (fun J24x g24x f24x => ?_)
            refine e_aload rfl rfl ?_
            refine e_getR rfl hA.1 hA.2.1 ?_
            refine Eg.c1 rfl (by decide) (by decide) rfl (Nat.le_of_ble_eq_true rfl) (xrcv_of rfl hT.1 rfl) ((cs_step hT (hr.any (fun i k hi => f24x i k (by omega)))).mono (by decide)) (fun r1x h1x hq => ?_)
            obtain ⟨rfl, G, rfl, g1x, g2x⟩ := hq
            refine e_iload rfl rfl ?_
            have kg : ∀ i k, (i ≠ 1 ∨ (k ≠ 2 ∧ k ≠ 7)) → (i ≠ 7 ∨ k ≠ 2) → G i k = I i k := fun i k a b => (g2x i k a).trans (f24x i k b)
            exact Eg.ret rfl (by decide) rfl ⟨⟨_, rfl⟩, G, rfl, ⟨h0x, _, c + 1, l, g1x, (g2x 7 2 (by decide)).trans g24x, by omega, (kg ru 1 (by omega) (by omega)).trans h4x, h5x⟩, fun i k a b c d => kg i k a b⟩
          · refine e_aload rfl rfl ?_
            refine e_getR rfl hA.1 hA.2.1 ?_
            refine e_ipush rfl ?_
            refine Eg.c2 rfl (by decide) (by decide) rfl (Nat.le_of_ble_eq_true rfl) (xrcv_of rfl hT.1 rfl) ((cs_failW hT hA hU hw (k := 3)).mono (by decide)) (fun r1x h1x hq => ?_)
            obtain ⟨rfl, J, rfl, v1x, k1x⟩ := hq
            refine e_goto rfl ?_
            refine e_iload rfl rfl ?_
            exact Eg.ret rfl (by decide) rfl ⟨⟨_, rfl⟩, J, rfl, v1x, k1x⟩
        · refine e_iload rfl rfl ?_
          refine e_ipush rfl ?_
          refine e_ceq_b rfl (fun b37x => ?_) (fun b37x => ?_)
          · refine e_aload rfl rfl ?_
            refine e_getIv rfl hA.1 h2x ?_
            refine e_ipush rfl ?_
            refine e_clt_b rfl (fun b57x => ?_) (fun b57x => ?_)
            · have b57x := (nI_lti (b := 60) (by omega) (by decide)).mp b57x
              refine e_aload rfl rfl ?_
              refine e_dupr rfl ?_
              refine e_getIv rfl hA.1 h2x ?_
              refine e_ipush rfl ?_
              refine e_iadd rfl ?_
              rw [show (nI c) + 1 = nI (c + 1) from nI_1 _]
              refine e_putIJ rfl hA.1 (fun J25x g25x f25x => ?_)
              refine e_aload rfl rfl ?_
              refine e_getR rfl hA.1 hA.2.1 ?_
              refine Eg.c1 rfl (by decide) (by decide) rfl (Nat.le_of_ble_eq_true rfl) (xrcv_of rfl hT.1 rfl) ((cs_step hT (hr.any (fun i k hi => f25x i k (by omega)))).mono (by decide)) (fun r1x h1x hq => ?_)
              obtain ⟨rfl, G, rfl, g1x, g2x⟩ := hq
              refine e_iload rfl rfl ?_
              have kg : ∀ i k, (i ≠ 1 ∨ (k ≠ 2 ∧ k ≠ 7)) → (i ≠ 7 ∨ k ≠ 2) → G i k = I i k := fun i k a b => (g2x i k a).trans (f25x i k b)
              exact Eg.ret rfl (by decide) rfl ⟨⟨_, rfl⟩, G, rfl, ⟨h0x, _, c + 1, l, g1x, (g2x 7 2 (by decide)).trans g25x, by omega, (kg ru 1 (by omega) (by omega)).trans h4x, h5x⟩, fun i k a b c d => kg i k a b⟩
            · refine e_aload rfl rfl ?_
              refine e_getR rfl hA.1 hA.2.1 ?_
              refine e_ipush rfl ?_
              refine Eg.c2 rfl (by decide) (by decide) rfl (Nat.le_of_ble_eq_true rfl) (xrcv_of rfl hT.1 rfl) ((cs_failW hT hA hU hw (k := 3)).mono (by decide)) (fun r1x h1x hq => ?_)
              obtain ⟨rfl, J, rfl, v1x, k1x⟩ := hq
              refine e_goto rfl ?_
              refine e_iload rfl rfl ?_
              exact Eg.ret rfl (by decide) rfl ⟨⟨_, rfl⟩, J, rfl, v1x, k1x⟩
          · refine e_aload rfl rfl ?_
            refine e_getR rfl hA.1 hA.2.1 ?_
            refine e_ipush rfl ?_
            refine Eg.c2 rfl (by decide) (by decide) rfl (Nat.le_of_ble_eq_true rfl) (xrcv_of rfl hT.1 rfl) ((cs_failW hT hA hU hw (k := 0)).mono (by decide)) (fun r1x h1x hq => ?_)
            obtain ⟨rfl, J, rfl, v1x, k1x⟩ := hq
            refine e_goto rfl ?_
            refine e_iload rfl rfl ?_
            exact Eg.ret rfl (by decide) rfl ⟨⟨_, rfl⟩, J, rfl, v1x, k1x⟩
theorem cs_takeCmp (hT : TpAt sh R) (hA : RRAt sh R ru) (hU : RuAt sh R ru) (hr : Cst I B n E ru st) : Ec X 2 75 [.ref 7] (sh, I, L, R) (fun r h' => r = some (.int (sgH B n st.1)) ∧ ∃ J : Nat → Nat → Int32, h' = (sh, J, L, R) ∧ rRes I J B n E ru (rCs B n st)) := by
  obtain ⟨hp, hn⟩ := hr.le
  have h9x := hA.2.2.2
  have hc := hr.2.2.1
  have hbd := hr.2.2.2.2.1
  refine Ec.of (Nat.le_of_ble_eq_true rfl) ?_
  refine e_aload rfl rfl ?_
  refine e_getR rfl hA.1 hA.2.1 ?_
  refine Eg.p1 rfl (by decide) (by decide) rfl (Nat.le_of_ble_eq_true rfl) (xrcv_of rfl hT.1 rfl) ((cs_signHere hT hr.1).mono (by decide)) ?_
  refine e_istore rfl ?_
  refine e_iload rfl rfl ?_
  refine e_ipush rfl ?_
  refine e_ceq_b rfl (fun b11x => ?_) (fun b11x => ?_)
  · refine e_aload rfl rfl ?_
    refine e_getIv rfl hA.1 hr.2.1 ?_
    refine e_ipush rfl ?_
    refine e_clt_b rfl (fun b57x => ?_) (fun b57x => ?_)
    · have b57x := (nI_lti (b := 60) (by omega) (by decide)).mp b57x
      refine e_aload rfl rfl ?_
      refine e_dupr rfl ?_
      refine e_getIv rfl hA.1 hr.2.1 ?_
      refine e_ipush rfl ?_
      refine e_iadd rfl ?_
      rw [show (nI st.2.1) + 1 = nI (st.2.1 + 1) from nI_1 _]
      refine e_putIJ rfl hA.1 (fun J21x g21x f21x => ?_)
      refine e_aload rfl rfl ?_
      refine e_getR rfl hA.1 hA.2.1 ?_
      refine Eg.c1 rfl (by decide) (by decide) rfl (Nat.le_of_ble_eq_true rfl) (xrcv_of rfl hT.1 rfl) ((cs_step hT (hr.1.any (fun i k hi => f21x i k (by omega)))).mono (by decide)) (fun r1x h1x hq => ?_)
      obtain ⟨rfl, G, rfl, g1x, g2x⟩ := hq
      refine e_iload rfl rfl ?_
      have nz : ¬ cmS B n st.1 = 0 := fun e => (cmS_0.mp e).1 b11x
      have eD : rCs B n st = (0, (nxt B n st.1, st.2.1 + 1, st.2.2)) := by unfold rCs; rw [if_neg nz, if_neg (by omega)]
      have kg : ∀ i k, (i ≠ 1 ∨ (k ≠ 2 ∧ k ≠ 7)) → (i ≠ 7 ∨ k ≠ 2) → G i k = I i k := fun i k a b => (g2x i k a).trans (f21x i k b)
      have nx := (nxt_le (B := B) (n := n) (p := st.1) hp).1
      refine Eg.ret rfl (by decide) rfl ⟨rfl, G, rfl, ?_⟩
      rw [eD]
      refine ⟨fun i k a b c d => kg i k a b, Or.inl ⟨rfl, g1x, (g2x 7 2 (by decide)).trans g21x, ?_, (kg ru 1 (by omega) (by omega)).trans hr.2.2.2.1, ?_, fun k e q => (kg (ru + 1) k (by omega) (by omega)).trans (hr.2.2.2.2.2 k e q)⟩⟩
      · show st.2.1 + 1 ≤ 60; omega
      · show 2 * st.2.2.length ≤ 2 * (st.2.1 + 1) + nxt B n st.1; omega
    · have b57x := nlt (b := 60) (by omega) (by decide) b57x
      refine e_aload rfl rfl ?_
      refine e_getR rfl hA.1 hA.2.1 ?_
      refine e_ipush rfl ?_
      refine Eg.c2 rfl (by decide) (by decide) rfl (Nat.le_of_ble_eq_true rfl) (xrcv_of rfl hT.1 rfl) ((cs_fail hT hr.1 (k := 3)).mono (by decide)) (fun r1x h1x hq => ?_)
      obtain ⟨rfl, J, rfl, a1x, a2x⟩ := hq
      refine e_goto rfl ?_
      refine e_iload rfl rfl ?_
      have nz : ¬ cmS B n st.1 = 0 := fun e => (cmS_0.mp e).1 b11x
      have eD : rCs B n st = (fl 0 st.1 3, st) := by unfold rCs; rw [if_neg nz, if_pos b57x]
      exact Eg.ret rfl (by decide) rfl ⟨rfl, J, rfl, by rw [eD]; exact ⟨QFr.of a2x, Or.inr (hr.wk h9x (fl_ne (by omega)) a1x a2x)⟩⟩
  · refine e_iload rfl rfl ?_
    refine e_ipush rfl ?_
    refine e_ceq_b rfl (fun b17x => ?_) (fun b17x => ?_)
    · refine e_aload rfl rfl ?_
      refine e_getIv rfl hA.1 hr.2.1 ?_
      refine e_ipush rfl ?_
      refine e_clt_b rfl (fun b57x => ?_) (fun b57x => ?_)
      · have b57x := (nI_lti (b := 60) (by omega) (by decide)).mp b57x
        refine e_aload rfl rfl ?_
        refine e_dupr rfl ?_
        refine e_getIv rfl hA.1 hr.2.1 ?_
        refine e_ipush rfl ?_
        refine e_iadd rfl ?_
        rw [show (nI st.2.1) + 1 = nI (st.2.1 + 1) from nI_1 _]
        refine e_putIJ rfl hA.1 (fun J22x g22x f22x => ?_)
        refine e_aload rfl rfl ?_
        refine e_getR rfl hA.1 hA.2.1 ?_
        refine Eg.c1 rfl (by decide) (by decide) rfl (Nat.le_of_ble_eq_true rfl) (xrcv_of rfl hT.1 rfl) ((cs_step hT (hr.1.any (fun i k hi => f22x i k (by omega)))).mono (by decide)) (fun r1x h1x hq => ?_)
        obtain ⟨rfl, G, rfl, g1x, g2x⟩ := hq
        refine e_iload rfl rfl ?_
        have nz : ¬ cmS B n st.1 = 0 := fun e => (cmS_0.mp e).2.1 b17x
        have eD : rCs B n st = (0, (nxt B n st.1, st.2.1 + 1, st.2.2)) := by unfold rCs; rw [if_neg nz, if_neg (by omega)]
        have kg : ∀ i k, (i ≠ 1 ∨ (k ≠ 2 ∧ k ≠ 7)) → (i ≠ 7 ∨ k ≠ 2) → G i k = I i k := fun i k a b => (g2x i k a).trans (f22x i k b)
        have nx := (nxt_le (B := B) (n := n) (p := st.1) hp).1
        refine Eg.ret rfl (by decide) rfl ⟨rfl, G, rfl, ?_⟩
        rw [eD]
        refine ⟨fun i k a b c d => kg i k a b, Or.inl ⟨rfl, g1x, (g2x 7 2 (by decide)).trans g22x, ?_, (kg ru 1 (by omega) (by omega)).trans hr.2.2.2.1, ?_, fun k e q => (kg (ru + 1) k (by omega) (by omega)).trans (hr.2.2.2.2.2 k e q)⟩⟩
        · show st.2.1 + 1 ≤ 60; omega
        · show 2 * st.2.2.length ≤ 2 * (st.2.1 + 1) + nxt B n st.1; omega
      · have b57x := nlt (b := 60) (by omega) (by decide) b57x
        refine e_aload rfl rfl ?_
        refine e_getR rfl hA.1 hA.2.1 ?_
        refine e_ipush rfl ?_
        refine Eg.c2 rfl (by decide) (by decide) rfl (Nat.le_of_ble_eq_true rfl) (xrcv_of rfl hT.1 rfl) ((cs_fail hT hr.1 (k := 3)).mono (by decide)) (fun r1x h1x hq => ?_)
        obtain ⟨rfl, J, rfl, a1x, a2x⟩ := hq
        refine e_goto rfl ?_
        refine e_iload rfl rfl ?_
        have nz : ¬ cmS B n st.1 = 0 := fun e => (cmS_0.mp e).2.1 b17x
        have eD : rCs B n st = (fl 0 st.1 3, st) := by unfold rCs; rw [if_neg nz, if_pos b57x]
        exact Eg.ret rfl (by decide) rfl ⟨rfl, J, rfl, by rw [eD]; exact ⟨QFr.of a2x, Or.inr (hr.wk h9x (fl_ne (by omega)) a1x a2x)⟩⟩
    · refine e_iload rfl rfl ?_
      refine e_ipush rfl ?_
      refine e_ceq_b rfl (fun b23x => ?_) (fun b23x => ?_)
      · refine e_aload rfl rfl ?_
        refine e_getIv rfl hA.1 hr.2.1 ?_
        refine e_ipush rfl ?_
        refine e_clt_b rfl (fun b57x => ?_) (fun b57x => ?_)
        · have b57x := (nI_lti (b := 60) (by omega) (by decide)).mp b57x
          refine e_aload rfl rfl ?_
          refine e_dupr rfl ?_
          refine e_getIv rfl hA.1 hr.2.1 ?_
          refine e_ipush rfl ?_
          refine e_iadd rfl ?_
          rw [show (nI st.2.1) + 1 = nI (st.2.1 + 1) from nI_1 _]
          refine e_putIJ rfl hA.1 (fun J23x g23x f23x => ?_)
          refine e_aload rfl rfl ?_
          refine e_getR rfl hA.1 hA.2.1 ?_
          refine Eg.c1 rfl (by decide) (by decide) rfl (Nat.le_of_ble_eq_true rfl) (xrcv_of rfl hT.1 rfl) ((cs_step hT (hr.1.any (fun i k hi => f23x i k (by omega)))).mono (by decide)) (fun r1x h1x hq => ?_)
          obtain ⟨rfl, G, rfl, g1x, g2x⟩ := hq
          refine e_iload rfl rfl ?_
          have nz : ¬ cmS B n st.1 = 0 := fun e => (cmS_0.mp e).2.2.1 b23x
          have eD : rCs B n st = (0, (nxt B n st.1, st.2.1 + 1, st.2.2)) := by unfold rCs; rw [if_neg nz, if_neg (by omega)]
          have kg : ∀ i k, (i ≠ 1 ∨ (k ≠ 2 ∧ k ≠ 7)) → (i ≠ 7 ∨ k ≠ 2) → G i k = I i k := fun i k a b => (g2x i k a).trans (f23x i k b)
          have nx := (nxt_le (B := B) (n := n) (p := st.1) hp).1
          refine Eg.ret rfl (by decide) rfl ⟨rfl, G, rfl, ?_⟩
          rw [eD]
          refine ⟨fun i k a b c d => kg i k a b, Or.inl ⟨rfl, g1x, (g2x 7 2 (by decide)).trans g23x, ?_, (kg ru 1 (by omega) (by omega)).trans hr.2.2.2.1, ?_, fun k e q => (kg (ru + 1) k (by omega) (by omega)).trans (hr.2.2.2.2.2 k e q)⟩⟩
          · show st.2.1 + 1 ≤ 60; omega
          · show 2 * st.2.2.length ≤ 2 * (st.2.1 + 1) + nxt B n st.1; omega
        · have b57x := nlt (b := 60) (by omega) (by decide) b57x
          refine e_aload rfl rfl ?_
          refine e_getR rfl hA.1 hA.2.1 ?_
          refine e_ipush rfl ?_
          refine Eg.c2 rfl (by decide) (by decide) rfl (Nat.le_of_ble_eq_true rfl) (xrcv_of rfl hT.1 rfl) ((cs_fail hT hr.1 (k := 3)).mono (by decide)) (fun r1x h1x hq => ?_)
          obtain ⟨rfl, J, rfl, a1x, a2x⟩ := hq
          refine e_goto rfl ?_
          refine e_iload rfl rfl ?_
          have nz : ¬ cmS B n st.1 = 0 := fun e => (cmS_0.mp e).2.2.1 b23x
          have eD : rCs B n st = (fl 0 st.1 3, st) := by unfold rCs; rw [if_neg nz, if_pos b57x]
          exact Eg.ret rfl (by decide) rfl ⟨rfl, J, rfl, by rw [eD]; exact ⟨QFr.of a2x, Or.inr (hr.wk h9x (fl_ne (by omega)) a1x a2x)⟩⟩
      · refine e_iload rfl rfl ?_
        refine e_ipush rfl ?_
        refine e_ceq_b rfl (fun b30x => ?_) (fun b30x => ?_)
        · refine e_aload rfl rfl ?_
          refine e_getIv rfl hA.1 hr.2.1 ?_
          refine e_ipush rfl ?_
          refine e_clt_b rfl (fun b57x => ?_) (fun b57x => ?_)
          · have b57x := (nI_lti (b := 60) (by omega) (by decide)).mp b57x
            refine e_aload rfl rfl ?_
            refine e_dupr rfl ?_
            refine e_getIv rfl hA.1 hr.2.1 ?_
            refine e_ipush rfl ?_
            refine e_iadd rfl ?_
            rw [show (nI st.2.1) + 1 = nI (st.2.1 + 1) from nI_1 _]
            refine e_putIJ rfl hA.1 (fun J24x g24x f24x => ?_)
            refine e_aload rfl rfl ?_
            refine e_getR rfl hA.1 hA.2.1 ?_
            refine Eg.c1 rfl (by decide) (by decide) rfl (Nat.le_of_ble_eq_true rfl) (xrcv_of rfl hT.1 rfl) ((cs_step hT (hr.1.any (fun i k hi => f24x i k (by omega)))).mono (by decide)) (fun r1x h1x hq => ?_)
            obtain ⟨rfl, G, rfl, g1x, g2x⟩ := hq
            refine e_iload rfl rfl ?_
            have nz : ¬ cmS B n st.1 = 0 := fun e => (cmS_0.mp e).2.2.2.1 b30x
            have eD : rCs B n st = (0, (nxt B n st.1, st.2.1 + 1, st.2.2)) := by unfold rCs; rw [if_neg nz, if_neg (by omega)]
            have kg : ∀ i k, (i ≠ 1 ∨ (k ≠ 2 ∧ k ≠ 7)) → (i ≠ 7 ∨ k ≠ 2) → G i k = I i k := fun i k a b => (g2x i k a).trans (f24x i k b)
            have nx := (nxt_le (B := B) (n := n) (p := st.1) hp).1
            refine Eg.ret rfl (by decide) rfl ⟨rfl, G, rfl, ?_⟩
            rw [eD]
            refine ⟨fun i k a b c d => kg i k a b, Or.inl ⟨rfl, g1x, (g2x 7 2 (by decide)).trans g24x, ?_, (kg ru 1 (by omega) (by omega)).trans hr.2.2.2.1, ?_, fun k e q => (kg (ru + 1) k (by omega) (by omega)).trans (hr.2.2.2.2.2 k e q)⟩⟩
            · show st.2.1 + 1 ≤ 60; omega
            · show 2 * st.2.2.length ≤ 2 * (st.2.1 + 1) + nxt B n st.1; omega
          · have b57x := nlt (b := 60) (by omega) (by decide) b57x
            refine e_aload rfl rfl ?_
            refine e_getR rfl hA.1 hA.2.1 ?_
            refine e_ipush rfl ?_
            refine Eg.c2 rfl (by decide) (by decide) rfl (Nat.le_of_ble_eq_true rfl) (xrcv_of rfl hT.1 rfl) ((cs_fail hT hr.1 (k := 3)).mono (by decide)) (fun r1x h1x hq => ?_)
            obtain ⟨rfl, J, rfl, a1x, a2x⟩ := hq
            refine e_goto rfl ?_
            refine e_iload rfl rfl ?_
            have nz : ¬ cmS B n st.1 = 0 := fun e => (cmS_0.mp e).2.2.2.1 b30x
            have eD : rCs B n st = (fl 0 st.1 3, st) := by unfold rCs; rw [if_neg nz, if_pos b57x]
            exact Eg.ret rfl (by decide) rfl ⟨rfl, J, rfl, by rw [eD]; exact ⟨QFr.of a2x, Or.inr (hr.wk h9x (fl_ne (by omega)) a1x a2x)⟩⟩
        · refine e_iload rfl rfl ?_
          refine e_ipush rfl ?_
          refine e_ceq_b rfl (fun b37x => ?_) (fun b37x => ?_)
          · refine e_aload rfl rfl ?_
            refine e_getIv rfl hA.1 hr.2.1 ?_
            refine e_ipush rfl ?_
            refine e_clt_b rfl (fun b57x => ?_) (fun b57x => ?_)
            · have b57x := (nI_lti (b := 60) (by omega) (by decide)).mp b57x
              refine e_aload rfl rfl ?_
              refine e_dupr rfl ?_
              refine e_getIv rfl hA.1 hr.2.1 ?_
              refine e_ipush rfl ?_
              refine e_iadd rfl ?_
              rw [show (nI st.2.1) + 1 = nI (st.2.1 + 1) from nI_1 _]
              refine e_putIJ rfl hA.1 (fun J25x g25x f25x => ?_)
              refine e_aload rfl rfl ?_
              refine e_getR rfl hA.1 hA.2.1 ?_
              refine Eg.c1 rfl (by decide) (by decide) rfl (Nat.le_of_ble_eq_true rfl) (xrcv_of rfl hT.1 rfl) ((cs_step hT (hr.1.any (fun i k hi => f25x i k (by omega)))).mono (by decide)) (fun r1x h1x hq => ?_)
              obtain ⟨rfl, G, rfl, g1x, g2x⟩ := hq
              refine e_iload rfl rfl ?_
              have nz : ¬ cmS B n st.1 = 0 := fun e => (cmS_0.mp e).2.2.2.2 b37x
              have eD : rCs B n st = (0, (nxt B n st.1, st.2.1 + 1, st.2.2)) := by unfold rCs; rw [if_neg nz, if_neg (by omega)]
              have kg : ∀ i k, (i ≠ 1 ∨ (k ≠ 2 ∧ k ≠ 7)) → (i ≠ 7 ∨ k ≠ 2) → G i k = I i k := fun i k a b => (g2x i k a).trans (f25x i k b)
              have nx := (nxt_le (B := B) (n := n) (p := st.1) hp).1
              refine Eg.ret rfl (by decide) rfl ⟨rfl, G, rfl, ?_⟩
              rw [eD]
              refine ⟨fun i k a b c d => kg i k a b, Or.inl ⟨rfl, g1x, (g2x 7 2 (by decide)).trans g25x, ?_, (kg ru 1 (by omega) (by omega)).trans hr.2.2.2.1, ?_, fun k e q => (kg (ru + 1) k (by omega) (by omega)).trans (hr.2.2.2.2.2 k e q)⟩⟩
              · show st.2.1 + 1 ≤ 60; omega
              · show 2 * st.2.2.length ≤ 2 * (st.2.1 + 1) + nxt B n st.1; omega
            · have b57x := nlt (b := 60) (by omega) (by decide) b57x
              refine e_aload rfl rfl ?_
              refine e_getR rfl hA.1 hA.2.1 ?_
              refine e_ipush rfl ?_
              refine Eg.c2 rfl (by decide) (by decide) rfl (Nat.le_of_ble_eq_true rfl) (xrcv_of rfl hT.1 rfl) ((cs_fail hT hr.1 (k := 3)).mono (by decide)) (fun r1x h1x hq => ?_)
              obtain ⟨rfl, J, rfl, a1x, a2x⟩ := hq
              refine e_goto rfl ?_
              refine e_iload rfl rfl ?_
              have nz : ¬ cmS B n st.1 = 0 := fun e => (cmS_0.mp e).2.2.2.2 b37x
              have eD : rCs B n st = (fl 0 st.1 3, st) := by unfold rCs; rw [if_neg nz, if_pos b57x]
              exact Eg.ret rfl (by decide) rfl ⟨rfl, J, rfl, by rw [eD]; exact ⟨QFr.of a2x, Or.inr (hr.wk h9x (fl_ne (by omega)) a1x a2x)⟩⟩
          · refine e_aload rfl rfl ?_
            refine e_getR rfl hA.1 hA.2.1 ?_
            refine e_ipush rfl ?_
            refine Eg.c2 rfl (by decide) (by decide) rfl (Nat.le_of_ble_eq_true rfl) (xrcv_of rfl hT.1 rfl) ((cs_fail hT hr.1 (k := 0)).mono (by decide)) (fun r1x h1x hq => ?_)
            obtain ⟨rfl, J, rfl, a1x, a2x⟩ := hq
            refine e_goto rfl ?_
            refine e_iload rfl rfl ?_
            have eD : rCs B n st = (fl 0 st.1 0, st) := by unfold rCs; rw [if_pos (cmS_0.mpr ⟨b11x, b17x, b23x, b30x, b37x⟩)]
            exact Eg.ret rfl (by decide) rfl ⟨rfl, J, rfl, by rw [eD]; exact ⟨QFr.of a2x, Or.inr (hr.wk h9x (fl_ne (by omega)) a1x a2x)⟩⟩
end CR3x
