/-! A RULE read, the one side: sums, signs -/
section CR2x
variable {X : xX} {h : xH} {sh : List (Nat × Nat)} {I : Nat → Nat → Int32} {L : Nat → Nat → Int64} {R : Nat → Nat → Option Nat} {B : Nat → Nat} {n E ru : Nat} {st : rS}
theorem cs_rvalW (hT : TpAt sh R) (hA : RRAt sh R ru) (hU : RuAt sh R ru) {F : Int32} (hw : Csw I B n E ru F) : Ec X 2 79 [.ref 7] (sh, I, L, R) (fun r h' => r = none ∧ ∃ J : Nat → Nat → Int32, h' = (sh, J, L, R) ∧ Csw J B n E ru F ∧ QFr I J ru) := by
  obtain ⟨h0x, p, c, l, hr, h2x, h3x, h4x, h5x⟩ := id hw
  have h9x := hA.2.2.2
  refine Ec.of (Nat.le_of_ble_eq_true rfl) ?_
  refine e_aload rfl rfl ?_
  refine e_getR rfl hA.1 hA.2.1 ?_
  refine Eg.p1 rfl (by decide) (by decide) rfl (Nat.le_of_ble_eq_true rfl) (xrcv_of rfl hT.1 rfl) ((cs_atNumber hT hr).mono (by decide)) ?_
  refine e_istore rfl ?_
  refine e_aload rfl rfl ?_
  refine e_getR rfl hA.1 hA.2.1 ?_
  refine Eg.p1 rfl (by decide) (by decide) rfl (Nat.le_of_ble_eq_true rfl) (xrcv_of rfl hT.1 rfl) ((cs_wordHere hT hr).mono (by decide)) ?_
  refine e_istore rfl ?_
  refine e_iload rfl rfl ?_
  refine e_ifne_b rfl (fun b17x => ?_) (fun b17x => ?_)
  · replace b17x := yn_n0.mp b17x
    refine e_iload rfl rfl ?_
    refine e_ifeq_f rfl (yn_n0.mpr b17x) ?_
    refine e_aload rfl rfl ?_
    refine e_getR rfl hA.1 hA.2.1 ?_
    refine Eg.p1 rfl (by decide) (by decide) rfl (Nat.le_of_ble_eq_true rfl) (xrcv_of rfl hT.1 rfl) ((cs_numberHere hT hr).mono (by decide)) ?_
    refine e_ifge_b rfl (fun b49x => ?_) (fun b49x => ?_)
    · refine e_aload rfl rfl ?_
      refine e_getIv rfl hA.1 h2x ?_
      refine e_ipush rfl ?_
      refine e_clt_b rfl (fun b69x => ?_) (fun b69x => ?_)
      · have b69x := (nI_lti (b := 60) (by omega) (by decide)).mp b69x
        refine e_aload rfl rfl ?_
        refine e_getR rfl hA.1 hA.2.2.1 ?_
        refine e_iload rfl rfl ?_
        refine e_ifeq_f rfl (yn_n0.mpr b17x) ?_
        refine e_ipush rfl ?_
        refine e_aload rfl rfl ?_
        refine e_getR rfl hA.1 hA.2.1 ?_
        refine Eg.p1 rfl (by decide) (by decide) rfl (Nat.le_of_ble_eq_true rfl) (xrcv_of rfl hT.1 rfl) ((cs_numberHere hT hr).mono (by decide)) ?_
        refine e_iadd rfl ?_
        refine e_goto rfl ?_
        refine Eg.c2 rfl (by decide) (by decide) rfl (Nat.le_of_ble_eq_true rfl) (xrcv_of rfl hU.1 rfl) ((cs_radd hU (x := 1000 + (tvl B n p)) h4x h5x).mono (by decide)) (fun r1x h1x hq => ?_)
        obtain ⟨rfl, K, rfl, ka⟩ := hq
        obtain ⟨kw, kq⟩ := hw.ad h9x h4x h5x ka
        obtain ⟨-, p2x, c2x, l2x, k1x, k2x, k3x, k4x, k5x⟩ := id kw
        have ek2x : K 7 2 = nI c := by
          rcases ka with ⟨-, e⟩ | ⟨-, -, -, e⟩
          · rw [e]; exact h2x
          · exact (e 7 2 (by omega) (by omega)).trans h2x
        refine e_aload rfl rfl ?_
        refine e_dupr rfl ?_
        refine e_getIv rfl hA.1 ek2x ?_
        refine e_ipush rfl ?_
        refine e_iadd rfl ?_
        rw [show (nI c) + 1 = nI (c + 1) from nI_1 _]
        refine e_putIJ rfl hA.1 (fun J21x g21x f21x => ?_)
        refine e_aload rfl rfl ?_
        refine e_getR rfl hA.1 hA.2.1 ?_
        refine Eg.c1 rfl (by decide) (by decide) rfl (Nat.le_of_ble_eq_true rfl) (xrcv_of rfl hT.1 rfl) ((cs_step hT (k1x.any (fun i k hi => f21x i k (by omega)))).mono (by decide)) (fun r1x h1x hq => ?_)
        obtain ⟨rfl, G, rfl, g1x, g2x⟩ := hq
        have kg : ∀ i k, (i ≠ 1 ∨ (k ≠ 2 ∧ k ≠ 7)) → (i ≠ 7 ∨ k ≠ 2) → G i k = K i k := fun i k a b => (g2x i k a).trans (f21x i k b)
        exact Eg.ret rfl (by decide) rfl ⟨rfl, G, rfl, ⟨h0x, _, c + 1, l2x, g1x, (g2x 7 2 (by decide)).trans g21x, by omega, (kg ru 1 (by omega) (by omega)).trans k4x, k5x⟩, kq.tr (fun i k a b c d => kg i k a b)⟩
      · refine e_aload rfl rfl ?_
        refine e_getR rfl hA.1 hA.2.1 ?_
        refine e_ipush rfl ?_
        refine Eg.c2 rfl (by decide) (by decide) rfl (Nat.le_of_ble_eq_true rfl) (xrcv_of rfl hT.1 rfl) ((cs_fail hT hr (k := 3)).mono (by decide)) (fun r1x h1x hq => ?_)
        obtain ⟨rfl, J, rfl, a1x, a2x⟩ := hq
        rw [fl_n h0x] at a1x
        refine e_goto rfl ?_
        exact Eg.ret rfl (by decide) rfl ⟨rfl, J, rfl, ⟨h0x, p, c, l, a1x, (a2x 7 2 (by decide)).trans h2x, h3x, (a2x ru 1 (by omega)).trans h4x, h5x⟩, QFr.of a2x⟩
    · refine e_aload rfl rfl ?_
      refine e_getR rfl hA.1 hA.2.1 ?_
      refine e_ipush rfl ?_
      refine Eg.c2 rfl (by decide) (by decide) rfl (Nat.le_of_ble_eq_true rfl) (xrcv_of rfl hT.1 rfl) ((cs_fail hT hr (k := 1)).mono (by decide)) (fun r1x h1x hq => ?_)
      obtain ⟨rfl, J, rfl, a1x, a2x⟩ := hq
      rw [fl_n h0x] at a1x
      refine e_goto rfl ?_
      exact Eg.ret rfl (by decide) rfl ⟨rfl, J, rfl, ⟨h0x, p, c, l, a1x, (a2x 7 2 (by decide)).trans h2x, h3x, (a2x ru 1 (by omega)).trans h4x, h5x⟩, QFr.of a2x⟩
  · replace b17x := yn_0.mp b17x
    refine e_iload rfl rfl ?_
    refine Eg.p1 rfl (by decide) (by decide) rfl (Nat.le_of_ble_eq_true rfl) (xrcv_ofs (Or.inl rfl)) (cs_isVW.mono (by decide)) ?_
    refine e_ifne_b rfl (fun b24x => ?_) (fun b24x => ?_)
    · replace b24x := yn_n0.mp b24x
      refine e_iload rfl rfl ?_
      refine e_ifeq_t rfl (yn_0.mpr b17x) ?_
      refine e_aload rfl rfl ?_
      refine e_getIv rfl hA.1 h2x ?_
      refine e_ipush rfl ?_
      refine e_clt_b rfl (fun b69x => ?_) (fun b69x => ?_)
      · have b69x := (nI_lti (b := 60) (by omega) (by decide)).mp b69x
        refine e_aload rfl rfl ?_
        refine e_getR rfl hA.1 hA.2.2.1 ?_
        refine e_iload rfl rfl ?_
        refine e_ifeq_t rfl (yn_0.mpr b17x) ?_
        refine e_iload rfl rfl ?_
        refine Eg.c2 rfl (by decide) (by decide) rfl (Nat.le_of_ble_eq_true rfl) (xrcv_of rfl hU.1 rfl) ((cs_radd hU (x := wdH B n p) h4x h5x).mono (by decide)) (fun r1x h1x hq => ?_)
        obtain ⟨rfl, K, rfl, ka⟩ := hq
        obtain ⟨kw, kq⟩ := hw.ad h9x h4x h5x ka
        obtain ⟨-, p2x, c2x, l2x, k1x, k2x, k3x, k4x, k5x⟩ := id kw
        have ek2x : K 7 2 = nI c := by
          rcases ka with ⟨-, e⟩ | ⟨-, -, -, e⟩
          · rw [e]; exact h2x
          · exact (e 7 2 (by omega) (by omega)).trans h2x
        refine e_aload rfl rfl ?_
        refine e_dupr rfl ?_
        refine e_getIv rfl hA.1 ek2x ?_
        refine e_ipush rfl ?_
        refine e_iadd rfl ?_
        rw [show (nI c) + 1 = nI (c + 1) from nI_1 _]
        refine e_putIJ rfl hA.1 (fun J22x g22x f22x => ?_)
        refine e_aload rfl rfl ?_
        refine e_getR rfl hA.1 hA.2.1 ?_
        refine Eg.c1 rfl (by decide) (by decide) rfl (Nat.le_of_ble_eq_true rfl) (xrcv_of rfl hT.1 rfl) ((cs_step hT (k1x.any (fun i k hi => f22x i k (by omega)))).mono (by decide)) (fun r1x h1x hq => ?_)
        obtain ⟨rfl, G, rfl, g1x, g2x⟩ := hq
        have kg : ∀ i k, (i ≠ 1 ∨ (k ≠ 2 ∧ k ≠ 7)) → (i ≠ 7 ∨ k ≠ 2) → G i k = K i k := fun i k a b => (g2x i k a).trans (f22x i k b)
        exact Eg.ret rfl (by decide) rfl ⟨rfl, G, rfl, ⟨h0x, _, c + 1, l2x, g1x, (g2x 7 2 (by decide)).trans g22x, by omega, (kg ru 1 (by omega) (by omega)).trans k4x, k5x⟩, kq.tr (fun i k a b c d => kg i k a b)⟩
      · refine e_aload rfl rfl ?_
        refine e_getR rfl hA.1 hA.2.1 ?_
        refine e_ipush rfl ?_
        refine Eg.c2 rfl (by decide) (by decide) rfl (Nat.le_of_ble_eq_true rfl) (xrcv_of rfl hT.1 rfl) ((cs_fail hT hr (k := 3)).mono (by decide)) (fun r1x h1x hq => ?_)
        obtain ⟨rfl, J, rfl, a1x, a2x⟩ := hq
        rw [fl_n h0x] at a1x
        refine e_goto rfl ?_
        exact Eg.ret rfl (by decide) rfl ⟨rfl, J, rfl, ⟨h0x, p, c, l, a1x, (a2x 7 2 (by decide)).trans h2x, h3x, (a2x ru 1 (by omega)).trans h4x, h5x⟩, QFr.of a2x⟩
    · replace b24x := yn_0.mp b24x
      refine e_aload rfl rfl ?_
      refine e_getR rfl hA.1 hA.2.1 ?_
      refine e_ipush rfl ?_
      refine Eg.c2 rfl (by decide) (by decide) rfl (Nat.le_of_ble_eq_true rfl) (xrcv_of rfl hT.1 rfl) ((cs_fail hT hr (k := 0)).mono (by decide)) (fun r1x h1x hq => ?_)
      obtain ⟨rfl, J, rfl, a1x, a2x⟩ := hq
      rw [fl_n h0x] at a1x
      refine e_goto rfl ?_
      exact Eg.ret rfl (by decide) rfl ⟨rfl, J, rfl, ⟨h0x, p, c, l, a1x, (a2x 7 2 (by decide)).trans h2x, h3x, (a2x ru 1 (by omega)).trans h4x, h5x⟩, QFr.of a2x⟩
def opV (k : Nat) : Int32 := if k = 0 then -1 else pcE (k, 0)
theorem opV_ne : ∀ k, k < 16 → (k = 0 ∨ k = 2 ∨ k = 3 ∨ k = 13 ∨ k = 14 ∨ k = 15) → (opV k = -1 ↔ k = 0) := by decide
theorem opV_pc {k : Nat} (h : ¬ k = 0) : opV k = pcE (k, 0) := if_neg h
theorem cs_timesHere (hT : TpAt sh R) (hA : RRAt sh R ru) {p : Nat} {f : Int32} (hr : Rd I B n E p f) : Ec X 2 77 [.ref 7] (sh, I, L, R) (fun r h' => r = some (.int (opV (tmS B n p))) ∧ h' = (sh, I, L, R)) := by
  refine Ec.of (Nat.le_of_ble_eq_true rfl) ?_
  refine e_aload rfl rfl ?_
  refine e_getR rfl hA.1 hA.2.1 ?_
  refine Eg.p1 rfl (by decide) (by decide) rfl (Nat.le_of_ble_eq_true rfl) (xrcv_of rfl hT.1 rfl) ((cs_signHere hT hr).mono (by decide)) ?_
  refine e_istore rfl ?_
  refine e_iload rfl rfl ?_
  refine e_ipush rfl ?_
  refine e_ceq_b rfl (fun b11x => ?_) (fun b11x => ?_)
  · refine e_iload rfl rfl ?_
    refine e_goto rfl ?_
    refine Eg.ret rfl (by decide) rfl ⟨congrArg (fun z => some (Value.int z)) ?_, rfl⟩
    rw [show tmS B n p = 13 from by unfold tmS; rw [if_pos b11x], b11x]; rfl
  · refine e_iload rfl rfl ?_
    refine e_ipush rfl ?_
    refine e_ceq_b rfl (fun b17x => ?_) (fun b17x => ?_)
    · refine e_iload rfl rfl ?_
      refine e_goto rfl ?_
      refine Eg.ret rfl (by decide) rfl ⟨congrArg (fun z => some (Value.int z)) ?_, rfl⟩
      rw [show tmS B n p = 14 from by unfold tmS; rw [if_neg b11x, if_pos b17x], b17x]; rfl
    · refine e_iload rfl rfl ?_
      refine e_ipush rfl ?_
      refine e_cne_b rfl (fun b23x => ?_) (fun b23x => ?_)
      · refine e_ipush rfl ?_
        refine Eg.ret rfl (by decide) rfl ⟨congrArg (fun z => some (Value.int z)) ?_, rfl⟩
        rw [show tmS B n p = 0 from by unfold tmS; rw [if_neg b11x, if_neg b17x, if_neg b23x]]; rfl
      · refine e_iload rfl rfl ?_
        refine e_goto rfl ?_
        refine Eg.ret rfl (by decide) rfl ⟨congrArg (fun z => some (Value.int z)) ?_, rfl⟩
        rw [show tmS B n p = 15 from by unfold tmS; rw [if_neg b11x, if_neg b17x, if_pos b23x], b23x]; rfl
theorem cs_plusHere (hT : TpAt sh R) (hA : RRAt sh R ru) {p : Nat} {f : Int32} (hr : Rd I B n E p f) : Ec X 2 78 [.ref 7] (sh, I, L, R) (fun r h' => r = some (.int (opV (plS B n p))) ∧ h' = (sh, I, L, R)) := by
  refine Ec.of (Nat.le_of_ble_eq_true rfl) ?_
  refine e_aload rfl rfl ?_
  refine e_getR rfl hA.1 hA.2.1 ?_
  refine Eg.p1 rfl (by decide) (by decide) rfl (Nat.le_of_ble_eq_true rfl) (xrcv_of rfl hT.1 rfl) ((cs_signHere hT hr).mono (by decide)) ?_
  refine e_istore rfl ?_
  refine e_iload rfl rfl ?_
  refine e_ipush rfl ?_
  refine e_ceq_b rfl (fun b11x => ?_) (fun b11x => ?_)
  · refine e_iload rfl rfl ?_
    refine e_goto rfl ?_
    refine Eg.ret rfl (by decide) rfl ⟨congrArg (fun z => some (Value.int z)) ?_, rfl⟩
    rw [show plS B n p = 2 from by unfold plS; rw [if_pos b11x], b11x]; rfl
  · refine e_iload rfl rfl ?_
    refine e_ipush rfl ?_
    refine e_cne_b rfl (fun b17x => ?_) (fun b17x => ?_)
    · refine e_ipush rfl ?_
      refine Eg.ret rfl (by decide) rfl ⟨congrArg (fun z => some (Value.int z)) ?_, rfl⟩
      rw [show plS B n p = 0 from by unfold plS; rw [if_neg b11x, if_neg b17x]]; rfl
    · refine e_iload rfl rfl ?_
      refine e_goto rfl ?_
      refine Eg.ret rfl (by decide) rfl ⟨congrArg (fun z => some (Value.int z)) ?_, rfl⟩
      rw [show plS B n p = 3 from by unfold plS; rw [if_neg b11x, if_pos b17x], b17x]; rfl
/-- a sum's loop: operators that pend, then a value, and on -/
def cnR (B : Nat → Nat) (n a b tm pl : Nat) (st : rS) : Int32 × rS :=
  if ¬ (rV B n st).1 = 0 then rV B n st
  else if ¬ (tmL B n a (aIf tm (rV B n st).2)).1 = 0 then tmL B n a (aIf tm (rV B n st).2)
  else slL B n b (aIf pl (tmL B n a (aIf tm (rV B n st).2)).2)
theorem cnR_0 {st : rS} : cnR B n 401 401 0 0 st = rSum B n st := by
  unfold cnR rSum rTm aIf
  by_cases h : ¬ (rV B n st).1 = 0
  · rw [if_pos h, if_pos h, if_pos h]
  · rw [if_neg h, if_pos rfl, if_neg h, if_pos rfl]
theorem tmL_z {a : Nat} {st : rS} (h : tmS B n st.1 = 0) : tmL B n a st = (0, st) := by
  cases a with
  | zero => rfl
  | succ a => rw [tmL, if_pos h]
theorem slL_z {a : Nat} {st : rS} (h : plS B n st.1 = 0) : slL B n a st = (0, st) := by
  cases a with
  | zero => rfl
  | succ a => rw [slL, if_pos h]
theorem aIf_1 {k : Nat} {st : rS} : (aIf k st).1 = st.1 := by unfold aIf adE; split <;> rfl
theorem aIf_c {k : Nat} {st : rS} : (aIf k st).2.1 = st.2.1 := by unfold aIf adE; split <;> rfl
theorem aIf_l {k : Nat} {st : rS} : (aIf k st).2.2.length = st.2.2.length + (if k = 0 then 0 else 1) := by unfold aIf adE; split <;> simp
theorem cnR_t {a b tm pl : Nat} {st : rS} (h1x : (rV B n st).1 = 0) (h2x : ¬ tmS B n (rV B n st).2.1 = 0) : cnR B n (a + 1) b tm pl st = cnR B n a b (tmS B n (rV B n st).2.1) pl (goN B n (aIf tm (rV B n st).2)) := by
  unfold cnR
  rw [if_neg (fun q => q h1x)]
  have e1x : (aIf tm (rV B n st).2).1 = (rV B n st).2.1 := aIf_1
  have eT : tmL B n (a + 1) (aIf tm (rV B n st).2) = if ¬ (rV B n (goN B n (aIf tm (rV B n st).2))).1 = 0 then rV B n (goN B n (aIf tm (rV B n st).2)) else tmL B n a (adE (tmS B n (rV B n st).2.1) (rV B n (goN B n (aIf tm (rV B n st).2))).2) := by
    rw [tmL, e1x, if_neg h2x]
  rw [eT]
  by_cases h3x : ¬ (rV B n (goN B n (aIf tm (rV B n st).2))).1 = 0
  · rw [if_pos h3x, if_pos h3x, if_pos h3x]
  · rw [if_neg h3x, if_neg h3x]
    have e2x : ∀ s : rS, aIf (tmS B n (rV B n st).2.1) s = adE (tmS B n (rV B n st).2.1) s := fun s => if_neg h2x
    rw [e2x]
theorem cnR_p {a b tm pl : Nat} {st : rS} (h1x : (rV B n st).1 = 0) (h2x : tmS B n (rV B n st).2.1 = 0) (h3x : ¬ plS B n (rV B n st).2.1 = 0) : cnR B n a (b + 1) tm pl st = cnR B n 401 b 0 (plS B n (rV B n st).2.1) (goN B n (aIf pl (aIf tm (rV B n st).2))) := by
  have e1x : (aIf tm (rV B n st).2).1 = (rV B n st).2.1 := aIf_1
  have e2x : (aIf pl (aIf tm (rV B n st).2)).1 = (rV B n st).2.1 := aIf_1.trans e1x
  have eT : tmL B n a (aIf tm (rV B n st).2) = (0, aIf tm (rV B n st).2) := tmL_z (by rw [e1x]; exact h2x)
  have e3x : ∀ s : rS, aIf 0 s = s := fun s => if_pos rfl
  have e4x : ∀ s : rS, aIf (plS B n (rV B n st).2.1) s = adE (plS B n (rV B n st).2.1) s := fun s => if_neg h3x
  unfold cnR
  rw [if_neg (fun q => q h1x), eT, if_neg (fun q => q rfl), e3x, e4x]
  show slL B n (b + 1) (aIf pl (aIf tm (rV B n st).2)) = _
  rw [slL, e2x, if_neg h3x]
  unfold rTm
  by_cases h5x : ¬ (rV B n (goN B n (aIf pl (aIf tm (rV B n st).2)))).1 = 0
  · rw [if_pos h5x, if_pos h5x, if_pos h5x]
  · rw [if_neg h5x, if_neg h5x]
theorem cnR_e {a b tm pl : Nat} {st : rS} (h1x : (rV B n st).1 = 0) (h2x : tmS B n (rV B n st).2.1 = 0) (h3x : plS B n (rV B n st).2.1 = 0) : cnR B n a b tm pl st = (0, aIf pl (aIf tm (rV B n st).2)) := by
  have e1x : (aIf tm (rV B n st).2).1 = (rV B n st).2.1 := aIf_1
  have e2x : (aIf pl (aIf tm (rV B n st).2)).1 = (rV B n st).2.1 := aIf_1.trans e1x
  unfold cnR
  rw [if_neg (fun q => q h1x), tmL_z (by rw [e1x]; exact h2x), if_neg (fun q => q rfl)]
  exact slL_z (by rw [e2x]; exact h3x)
theorem cs_sumW (hT : TpAt sh R) (hA : RRAt sh R ru) (hU : RuAt sh R ru) {F x y z w : Int32} (hw : Csw I B n E ru F) : Eg X xTc 2 76 25 [(0, .ref 7), (1, .int x), (2, .int y), (3, .int z), (4, .int w)] [] (sh, I, L, R) (fun r h' => r = none ∧ ∃ J : Nat → Nat → Int32, h' = (sh, J, L, R) ∧ Csw J B n E ru F ∧ QFr I J ru) := by
  obtain ⟨h0x, p0x, -, -, r0x, -⟩ := id hw
  refine e_iload rfl rfl ?_
  refine e_ipush rfl ?_
  refine e_ceq_b rfl (fun b27x => ?_) (fun b27x => ?_)
  · refine e_aload rfl rfl ?_
    refine Eg.p1 rfl (by decide) (by decide) rfl (Nat.le_of_ble_eq_true rfl) (xrcv_of rfl hA.1 rfl) ((cs_timesHere hT hA r0x).mono (by decide)) ?_
    refine e_istore rfl ?_
    refine e_iload rfl rfl ?_
    refine e_ipush rfl ?_
    refine e_cne_b rfl (fun b45x => ?_) (fun b45x => ?_)
    · refine e_aload rfl rfl ?_
      refine e_getR rfl hA.1 hA.2.1 ?_
      refine e_getIv rfl hT.1 r0x.2.2.1 ?_
      refine e_ifne_t rfl h0x ?_
      refine e_ipush rfl ?_
      refine e_istore rfl ?_
      refine e_iload rfl rfl ?_
      refine e_ifeq_t rfl rfl ?_
      refine e_iinc rfl rfl ?_
      refine e_goto rfl ?_
      refine e_iload rfl rfl ?_
      refine e_ifeq_t rfl rfl ?_
      exact Eg.ret rfl (by decide) rfl ⟨rfl, I, rfl, hw, QFr.rf⟩
    · refine e_iload rfl rfl ?_
      refine e_ipush rfl ?_
      refine e_ceq_b rfl (fun b50x => ?_) (fun b50x => ?_)
      · refine e_aload rfl rfl ?_
        refine Eg.p1 rfl (by decide) (by decide) rfl (Nat.le_of_ble_eq_true rfl) (xrcv_of rfl hA.1 rfl) ((cs_plusHere hT hA r0x).mono (by decide)) ?_
        refine e_istore rfl ?_
        refine e_aload rfl rfl ?_
        refine e_getR rfl hA.1 hA.2.1 ?_
        refine e_getIv rfl hT.1 r0x.2.2.1 ?_
        refine e_ifne_t rfl h0x ?_
        refine e_ipush rfl ?_
        refine e_istore rfl ?_
        refine e_iload rfl rfl ?_
        refine e_ifeq_t rfl rfl ?_
        refine e_iinc rfl rfl ?_
        refine e_goto rfl ?_
        refine e_iload rfl rfl ?_
        refine e_ifeq_t rfl rfl ?_
        exact Eg.ret rfl (by decide) rfl ⟨rfl, I, rfl, hw, QFr.rf⟩
      · refine e_aload rfl rfl ?_
        refine e_getR rfl hA.1 hA.2.2.1 ?_
        refine e_iload rfl rfl ?_
        refine Eg.c2 rfl (by decide) (by decide) rfl (Nat.le_of_ble_eq_true rfl) (xrcv_of rfl hU.1 rfl) ((cs_raddW hA hU hw).mono (by decide)) (fun r1x h1x hq => ?_)
        obtain ⟨rfl, M, rfl, v2x, k2x⟩ := hq
        replace k2x := QFr.tr (QFr.rf) k2x
        obtain ⟨-, p2x, -, -, r2x, -⟩ := id v2x
        refine e_aload rfl rfl ?_
        refine Eg.p1 rfl (by decide) (by decide) rfl (Nat.le_of_ble_eq_true rfl) (xrcv_of rfl hA.1 rfl) ((cs_plusHere hT hA r2x).mono (by decide)) ?_
        refine e_istore rfl ?_
        refine e_aload rfl rfl ?_
        refine e_getR rfl hA.1 hA.2.1 ?_
        refine e_getIv rfl hT.1 r2x.2.2.1 ?_
        refine e_ifne_t rfl h0x ?_
        refine e_ipush rfl ?_
        refine e_istore rfl ?_
        refine e_iload rfl rfl ?_
        refine e_ifeq_t rfl rfl ?_
        refine e_iinc rfl rfl ?_
        refine e_goto rfl ?_
        refine e_iload rfl rfl ?_
        refine e_ifeq_t rfl rfl ?_
        exact Eg.ret rfl (by decide) rfl ⟨rfl, M, rfl, v2x, k2x⟩
  · refine e_aload rfl rfl ?_
    refine e_getR rfl hA.1 hA.2.2.1 ?_
    refine e_iload rfl rfl ?_
    refine Eg.c2 rfl (by decide) (by decide) rfl (Nat.le_of_ble_eq_true rfl) (xrcv_of rfl hU.1 rfl) ((cs_raddW hA hU hw).mono (by decide)) (fun r1x h1x hq => ?_)
    obtain ⟨rfl, K, rfl, v1x, k1x⟩ := hq
    obtain ⟨-, p1x, -, -, r1x, -⟩ := id v1x
    refine e_aload rfl rfl ?_
    refine Eg.p1 rfl (by decide) (by decide) rfl (Nat.le_of_ble_eq_true rfl) (xrcv_of rfl hA.1 rfl) ((cs_timesHere hT hA r1x).mono (by decide)) ?_
    refine e_istore rfl ?_
    refine e_iload rfl rfl ?_
    refine e_ipush rfl ?_
    refine e_cne_b rfl (fun b45x => ?_) (fun b45x => ?_)
    · refine e_aload rfl rfl ?_
      refine e_getR rfl hA.1 hA.2.1 ?_
      refine e_getIv rfl hT.1 r1x.2.2.1 ?_
      refine e_ifne_t rfl h0x ?_
      refine e_ipush rfl ?_
      refine e_istore rfl ?_
      refine e_iload rfl rfl ?_
      refine e_ifeq_t rfl rfl ?_
      refine e_iinc rfl rfl ?_
      refine e_goto rfl ?_
      refine e_iload rfl rfl ?_
      refine e_ifeq_t rfl rfl ?_
      exact Eg.ret rfl (by decide) rfl ⟨rfl, K, rfl, v1x, k1x⟩
    · refine e_iload rfl rfl ?_
      refine e_ipush rfl ?_
      refine e_ceq_b rfl (fun b50x => ?_) (fun b50x => ?_)
      · refine e_aload rfl rfl ?_
        refine Eg.p1 rfl (by decide) (by decide) rfl (Nat.le_of_ble_eq_true rfl) (xrcv_of rfl hA.1 rfl) ((cs_plusHere hT hA r1x).mono (by decide)) ?_
        refine e_istore rfl ?_
        refine e_aload rfl rfl ?_
        refine e_getR rfl hA.1 hA.2.1 ?_
        refine e_getIv rfl hT.1 r1x.2.2.1 ?_
        refine e_ifne_t rfl h0x ?_
        refine e_ipush rfl ?_
        refine e_istore rfl ?_
        refine e_iload rfl rfl ?_
        refine e_ifeq_t rfl rfl ?_
        refine e_iinc rfl rfl ?_
        refine e_goto rfl ?_
        refine e_iload rfl rfl ?_
        refine e_ifeq_t rfl rfl ?_
        exact Eg.ret rfl (by decide) rfl ⟨rfl, K, rfl, v1x, k1x⟩
      · refine e_aload rfl rfl ?_
        refine e_getR rfl hA.1 hA.2.2.1 ?_
        refine e_iload rfl rfl ?_
        refine Eg.c2 rfl (by decide) (by decide) rfl (Nat.le_of_ble_eq_true rfl) (xrcv_of rfl hU.1 rfl) ((cs_raddW hA hU v1x).mono (by decide)) (fun r1x h1x hq => ?_)
        obtain ⟨rfl, M, rfl, v2x, k2x⟩ := hq
        replace k2x := QFr.tr (k1x) k2x
        obtain ⟨-, p2x, -, -, r2x, -⟩ := id v2x
        refine e_aload rfl rfl ?_
        refine Eg.p1 rfl (by decide) (by decide) rfl (Nat.le_of_ble_eq_true rfl) (xrcv_of rfl hA.1 rfl) ((cs_plusHere hT hA r2x).mono (by decide)) ?_
        refine e_istore rfl ?_
        refine e_aload rfl rfl ?_
        refine e_getR rfl hA.1 hA.2.1 ?_
        refine e_getIv rfl hT.1 r2x.2.2.1 ?_
        refine e_ifne_t rfl h0x ?_
        refine e_ipush rfl ?_
        refine e_istore rfl ?_
        refine e_iload rfl rfl ?_
        refine e_ifeq_t rfl rfl ?_
        refine e_iinc rfl rfl ?_
        refine e_goto rfl ?_
        refine e_iload rfl rfl ?_
        refine e_ifeq_t rfl rfl ?_
        exact Eg.ret rfl (by decide) rfl ⟨rfl, M, rfl, v2x, k2x⟩
theorem cs_readSumW (hT : TpAt sh R) (hA : RRAt sh R ru) (hU : RuAt sh R ru) {F : Int32} (hw : Csw I B n E ru F) : Ec X 3 76 [.ref 7] (sh, I, L, R) (fun r h' => r = none ∧ ∃ J : Nat → Nat → Int32, h' = (sh, J, L, R) ∧ Csw J B n E ru F ∧ QFr I J ru) := by
  refine Ec.of (Nat.le_of_ble_eq_true rfl) ?_
  refine e_ipush rfl ?_
  refine e_istore rfl ?_
  refine e_ipush rfl ?_
  refine e_istore rfl ?_
  refine e_ipush rfl ?_
  refine e_istore rfl ?_
  refine e_ipush rfl ?_
  refine e_istore rfl ?_
  refine e_iload rfl rfl ?_
  refine e_ifeq_f rfl (by decide) ?_
  refine e_iload rfl rfl ?_
  refine e_ipush rfl ?_
  refine e_cge_f rfl (by decide) ?_
  refine e_aload rfl rfl ?_
  refine Eg.c1 rfl (by decide) (by decide) rfl (Nat.le_of_ble_eq_true rfl) (xrcv_of rfl hA.1 rfl) ((cs_rvalW hT hA hU hw).mono (by decide)) (fun r1x h1x hq => ?_)
  obtain ⟨rfl, J, rfl, v1x, k1x⟩ := hq
  refine Eg.pk [0, 1, 2, 3, 4] [4, 3, 2, 1, 0] rfl (by decide) ?_
  refine (cs_sumW hT hA hU v1x).imp ?_
  rintro r h' ⟨rfl, M, rfl, v2x, k2x⟩
  exact ⟨rfl, M, rfl, v2x, k1x.tr k2x⟩
theorem aIf_0 {st : rS} : aIf 0 st = st := if_pos rfl
theorem aIf_p {k : Nat} {st : rS} (h : ¬ k = 0) : aIf k st = (st.1, st.2.1, st.2.2 ++ [(k, 0)]) := if_neg h
theorem rRes.tr {J K : Nat → Nat → Int32} {D : Int32 × rS} (h : QFr I J ru) (g : rRes J K B n E ru D) : rRes I K B n E ru D := ⟨h.tr g.1, g.2⟩
theorem rRes.wk {J : Nat → Nat → Int32} {D : Int32 × rS} (h : QFr I J ru) (g : Csw J B n E ru D.1) : rRes I J B n E ru D := ⟨h, Or.inr g⟩
theorem cs_sumLoop (hT : TpAt sh R) (hA : RRAt sh R ru) (hU : RuAt sh R ru) : ∀ (N a b tm pl i : Nat) (st : rS) (I : Nat → Nat → Int32), n - st.1 = N → n - st.1 ≤ a → n - st.1 ≤ b → (tm = 0 ∨ tm = 13 ∨ tm = 14 ∨ tm = 15) → (pl = 0 ∨ pl = 2 ∨ pl = 3) → 2 * i ≤ st.1 → 2 * (st.2.2.length + (if tm = 0 then 0 else 1) + (if pl = 0 then 0 else 1)) ≤ 2 * st.2.1 + st.1 → Cst I B n E ru st → Eg X xTc 2 76 9 [(0, .ref 7), (1, .int (opV tm)), (2, .int (opV pl)), (3, .int 1), (4, .int (nI i))] [] (sh, I, L, R) (fun r h' => r = none ∧ ∃ J : Nat → Nat → Int32, h' = (sh, J, L, R) ∧ rRes I J B n E ru (cnR B n a b tm pl st)) := by
  have h9x := hA.2.2.2
  intro N
  induction N using Nat.strongRecOn with
  | _ N ih =>
  intro a b tm pl i st I hN ha hb htm hpl hi hbd hr
  obtain ⟨hp, hn⟩ := hr.le
  have htl : tm < 16 := by omega
  have hpl6 : pl < 16 := by omega
  refine e_iload rfl rfl ?_
  refine e_ifeq_f rfl (by decide) ?_
  refine e_iload rfl rfl ?_
  refine e_ipush rfl ?_
  refine e_cge_f rfl (by intro q; have := (nI_lei (a := 400) (by decide) (by omega)).mp q; omega) ?_
  refine e_aload rfl rfl ?_
  refine Eg.c1 rfl (by decide) (by decide) rfl (Nat.le_of_ble_eq_true rfl) (xrcv_of rfl hA.1 rfl) ((cs_rval hT hA hU hr).mono (by decide)) (fun r1x h1x hq => ?_)
  obtain ⟨rfl, J, rfl, q1x, hc⟩ := hq
  rcases hc with ⟨e0x, c1x⟩ | v1x
  rotate_left
  · refine (cs_sumW hT hA hU v1x).imp ?_
    rintro r h' ⟨rfl, M, rfl, v2x, k2x⟩
    have v0x := v1x.1
    have eD : cnR B n a b tm pl st = rV B n st := by unfold cnR; rw [if_pos v0x]
    exact ⟨rfl, M, rfl, q1x.tr k2x, Or.inr (by rw [eD]; exact v2x)⟩
  obtain ⟨gv, gl, gn⟩ := rV_G hn hr.1.tok e0x
  obtain ⟨sg, s1x, s2x, s3x, s4x, s5x, s6x, s7x, s8x, s9x⟩ := gv
  have hlen : (rV B n st).2.2.2.length = st.2.2.length + sg.length := by rw [s1x, List.length_append]
  have tl := tmS_in (B := B) (n := n) (p := (rV B n st).2.1)
  have pl' := plS_in (B := B) (n := n) (p := (rV B n st).2.1)
  have ei := aIf_1 (k := tm) (st := (rV B n st).2)
  have ec := aIf_c (k := tm) (st := (rV B n st).2)
  have el := aIf_l (k := tm) (st := (rV B n st).2)
  refine e_iload rfl rfl ?_
  refine e_ipush rfl ?_
  refine e_ceq_b rfl (fun b27x => ?_) (fun b27x => ?_)
  · have z27x := (opV_ne tm htl (by omega)).mp b27x
    have c2x : Cst J B n E ru (aIf tm (rV B n st).2) := by rw [z27x, aIf_0]; exact c1x
    have q2x := q1x
    have r2x : Rd J B n E (rV B n st).2.1 0 := c1x.1
    refine e_aload rfl rfl ?_
    refine Eg.p1 rfl (by decide) (by decide) rfl (Nat.le_of_ble_eq_true rfl) (xrcv_of rfl hA.1 rfl) ((cs_timesHere hT hA r2x).mono (by decide)) ?_
    refine e_istore rfl ?_
    refine e_iload rfl rfl ?_
    refine e_ipush rfl ?_
    refine e_cne_b rfl (fun b45x => ?_) (fun b45x => ?_)
    · have z45x : ¬ tmS B n (rV B n st).2.1 = 0 := fun q => b45x ((opV_ne _ (by omega) (by omega)).mpr q)
      refine e_aload rfl rfl ?_
      refine e_getR rfl hA.1 hA.2.1 ?_
      refine e_getIv rfl hT.1 r2x.2.2.1 ?_
      refine e_ifne_f rfl (by decide) ?_
      refine e_iload rfl rfl ?_
      refine e_ipush rfl ?_
      refine e_cne_t rfl b45x ?_
      refine e_ipush rfl ?_
      refine e_goto rfl ?_
      refine e_istore rfl ?_
      refine e_iload rfl rfl ?_
      refine e_ifeq_f rfl (by decide) ?_
      refine e_aload rfl rfl ?_
      refine e_getR rfl hA.1 hA.2.1 ?_
      refine Eg.c1 rfl (by decide) (by decide) rfl (Nat.le_of_ble_eq_true rfl) (xrcv_of rfl hT.1 rfl) ((cs_step hT r2x).mono (by decide)) (fun r1x h1x hq => ?_)
      obtain ⟨rfl, G, rfl, g1x, g2x⟩ := hq
      refine e_iinc rfl rfl ?_
      refine e_goto rfl ?_
      refine Eg.pk [0, 1, 2, 3, 4] [4, 3, 1, 0, 2] rfl (by decide) ?_
      rw [nI_1]
      have nx := nxt_le (B := B) (n := n) (p := (rV B n st).2.1) r2x.le
      have lt := tmS_lt z45x
      have n3x := nx.2.2 lt
      obtain ⟨a', rfl⟩ : ∃ a', a = a' + 1 := ⟨a - 1, by omega⟩
      have cg : Cst G B n E ru (goN B n (aIf tm (rV B n st).2)) := c2x.go h9x (by rw [ei]; exact g1x) g2x
      have l1x : (goN B n (aIf tm (rV B n st).2)).1 = nxt B n (rV B n st).2.1 := by show nxt B n (aIf tm (rV B n st).2).1 = _; rw [ei]
      have l2x : (goN B n (aIf tm (rV B n st).2)).2.1 = (rV B n st).2.2.1 := ec
      have l3x : (goN B n (aIf tm (rV B n st).2)).2.2.length = (aIf tm (rV B n st).2).2.2.length := rfl
      refine (ih _ (by rw [← hN, l1x]; omega) a' b (tmS B n (rV B n st).2.1) pl (i + 1) (goN B n (aIf tm (rV B n st).2)) G rfl (by rw [l1x]; omega) (by rw [l1x]; omega) tl hpl (by rw [l1x]; omega) ?_ cg).imp ?_
      · rw [l1x, l2x, l3x, el, if_neg z45x]
        rw [if_pos z27x] at hbd ⊢
        by_cases z : pl = 0
        · rw [if_pos z] at hbd ⊢; omega
        · rw [if_neg z] at hbd ⊢; omega
      · rintro r h' ⟨rfl, T, rfl, t1x⟩
        exact ⟨rfl, T, rfl, by rw [cnR_t e0x z45x]; exact t1x.tr (q2x.tr (QFr.of g2x))⟩
    · have z45x := (opV_ne _ (by omega) (by omega)).mp b45x
      refine e_iload rfl rfl ?_
      refine e_ipush rfl ?_
      refine e_ceq_b rfl (fun b50x => ?_) (fun b50x => ?_)
      · have z50x := (opV_ne pl hpl6 (by omega)).mp b50x
        have c3x : Cst J B n E ru (aIf pl (aIf tm (rV B n st).2)) := by rw [z50x, aIf_0]; exact c2x
        have q3x := q2x
        have r3x := r2x
        refine e_aload rfl rfl ?_
        refine Eg.p1 rfl (by decide) (by decide) rfl (Nat.le_of_ble_eq_true rfl) (xrcv_of rfl hA.1 rfl) ((cs_plusHere hT hA r3x).mono (by decide)) ?_
        refine e_istore rfl ?_
        refine e_aload rfl rfl ?_
        refine e_getR rfl hA.1 hA.2.1 ?_
        refine e_getIv rfl hT.1 r3x.2.2.1 ?_
        refine e_ifne_f rfl (by decide) ?_
        refine e_iload rfl rfl ?_
        refine e_ipush rfl ?_
        refine e_cne_f rfl b45x ?_
        refine e_iload rfl rfl ?_
        refine e_ipush rfl ?_
        refine e_ceq_b rfl (fun b83x => ?_) (fun b83x => ?_)
        · have z83x := (opV_ne _ (by omega) (by omega)).mp b83x
          refine e_ipush rfl ?_
          refine e_istore rfl ?_
          refine e_iload rfl rfl ?_
          refine e_ifeq_t rfl rfl ?_
          refine e_iinc rfl rfl ?_
          refine e_goto rfl ?_
          refine e_iload rfl rfl ?_
          refine e_ifeq_t rfl rfl ?_
          exact Eg.ret rfl (by decide) rfl ⟨rfl, J, rfl, by rw [cnR_e e0x z45x z83x]; exact ⟨q3x, Or.inl ⟨rfl, c3x⟩⟩⟩
        · have z83x : ¬ plS B n (rV B n st).2.1 = 0 := fun q => b83x ((opV_ne _ (by omega) (by omega)).mpr q)
          refine e_ipush rfl ?_
          refine e_goto rfl ?_
          refine e_istore rfl ?_
          refine e_iload rfl rfl ?_
          refine e_ifeq_f rfl (by decide) ?_
          refine e_aload rfl rfl ?_
          refine e_getR rfl hA.1 hA.2.1 ?_
          refine Eg.c1 rfl (by decide) (by decide) rfl (Nat.le_of_ble_eq_true rfl) (xrcv_of rfl hT.1 rfl) ((cs_step hT r3x).mono (by decide)) (fun r1x h1x hq => ?_)
          obtain ⟨rfl, G, rfl, g1x, g2x⟩ := hq
          refine e_iinc rfl rfl ?_
          refine e_goto rfl ?_
          refine Eg.pk [0, 1, 2, 3, 4] [4, 3, 2, 1, 0] rfl (by decide) ?_
          rw [nI_1]
          have nx := nxt_le (B := B) (n := n) (p := (rV B n st).2.1) r2x.le
          rw [z45x]
          have lt := plS_lt z83x
          have n3x := nx.2.2 lt
          obtain ⟨b', rfl⟩ : ∃ b', b = b' + 1 := ⟨b - 1, by omega⟩
          have ei2x : (aIf pl (aIf tm (rV B n st).2)).1 = (rV B n st).2.1 := aIf_1.trans ei
          have el2x := aIf_l (k := pl) (st := aIf tm (rV B n st).2)
          have cg : Cst G B n E ru (goN B n (aIf pl (aIf tm (rV B n st).2))) := c3x.go h9x (by rw [ei2x]; exact g1x) g2x
          have l1x : (goN B n (aIf pl (aIf tm (rV B n st).2))).1 = nxt B n (rV B n st).2.1 := by show nxt B n (aIf pl (aIf tm (rV B n st).2)).1 = _; rw [ei2x]
          have l2x : (goN B n (aIf pl (aIf tm (rV B n st).2))).2.1 = (rV B n st).2.2.1 := aIf_c.trans ec
          have l3x : (goN B n (aIf pl (aIf tm (rV B n st).2))).2.2.length = (aIf pl (aIf tm (rV B n st).2)).2.2.length := rfl
          refine (ih _ (by rw [← hN, l1x]; omega) 401 b' 0 (plS B n (rV B n st).2.1) (i + 1) (goN B n (aIf pl (aIf tm (rV B n st).2))) G rfl (by omega) (by rw [l1x]; omega) (Or.inl rfl) pl' (by rw [l1x]; omega) ?_ cg).imp ?_
          · rw [l1x, l2x, l3x, el2x, el, if_neg z83x, if_pos (rfl : 0 = 0)]
            rw [if_pos z27x] at hbd ⊢
            rw [if_pos z50x] at hbd ⊢
            omega
          · rintro r h' ⟨rfl, T, rfl, t1x⟩
            exact ⟨rfl, T, rfl, by rw [cnR_p e0x z45x z83x]; exact t1x.tr (q3x.tr (QFr.of g2x))⟩
      · have z50x : ¬ pl = 0 := fun q => b50x ((opV_ne pl hpl6 (by omega)).mpr q)
        rw [if_neg z50x] at hbd
        refine e_aload rfl rfl ?_
        refine e_getR rfl hA.1 hA.2.2.1 ?_
        refine e_iload rfl rfl ?_
        refine Eg.c2 rfl (by decide) (by decide) rfl (Nat.le_of_ble_eq_true rfl) (xrcv_of rfl hU.1 rfl) ((cs_raddS (e := (pl, 0)) hA hU c2x (by omega) (opV_pc z50x)).mono (by decide)) (fun r1x h1x hq => ?_)
        obtain ⟨rfl, M, rfl, c3x, q3x⟩ := hq
        rw [← aIf_p z50x] at c3x
        replace q3x := q2x.tr q3x
        have r3x : Rd M B n E (rV B n st).2.1 0 := by have := c3x.1; rw [aIf_1, aIf_1] at this; exact this
        refine e_aload rfl rfl ?_
        refine Eg.p1 rfl (by decide) (by decide) rfl (Nat.le_of_ble_eq_true rfl) (xrcv_of rfl hA.1 rfl) ((cs_plusHere hT hA r3x).mono (by decide)) ?_
        refine e_istore rfl ?_
        refine e_aload rfl rfl ?_
        refine e_getR rfl hA.1 hA.2.1 ?_
        refine e_getIv rfl hT.1 r3x.2.2.1 ?_
        refine e_ifne_f rfl (by decide) ?_
        refine e_iload rfl rfl ?_
        refine e_ipush rfl ?_
        refine e_cne_f rfl b45x ?_
        refine e_iload rfl rfl ?_
        refine e_ipush rfl ?_
        refine e_ceq_b rfl (fun b83x => ?_) (fun b83x => ?_)
        · have z83x := (opV_ne _ (by omega) (by omega)).mp b83x
          refine e_ipush rfl ?_
          refine e_istore rfl ?_
          refine e_iload rfl rfl ?_
          refine e_ifeq_t rfl rfl ?_
          refine e_iinc rfl rfl ?_
          refine e_goto rfl ?_
          refine e_iload rfl rfl ?_
          refine e_ifeq_t rfl rfl ?_
          exact Eg.ret rfl (by decide) rfl ⟨rfl, M, rfl, by rw [cnR_e e0x z45x z83x]; exact ⟨q3x, Or.inl ⟨rfl, c3x⟩⟩⟩
        · have z83x : ¬ plS B n (rV B n st).2.1 = 0 := fun q => b83x ((opV_ne _ (by omega) (by omega)).mpr q)
          refine e_ipush rfl ?_
          refine e_goto rfl ?_
          refine e_istore rfl ?_
          refine e_iload rfl rfl ?_
          refine e_ifeq_f rfl (by decide) ?_
          refine e_aload rfl rfl ?_
          refine e_getR rfl hA.1 hA.2.1 ?_
          refine Eg.c1 rfl (by decide) (by decide) rfl (Nat.le_of_ble_eq_true rfl) (xrcv_of rfl hT.1 rfl) ((cs_step hT r3x).mono (by decide)) (fun r1x h1x hq => ?_)
          obtain ⟨rfl, G, rfl, g1x, g2x⟩ := hq
          refine e_iinc rfl rfl ?_
          refine e_goto rfl ?_
          refine Eg.pk [0, 1, 2, 3, 4] [4, 3, 2, 1, 0] rfl (by decide) ?_
          rw [nI_1]
          have nx := nxt_le (B := B) (n := n) (p := (rV B n st).2.1) r2x.le
          rw [z45x]
          have lt := plS_lt z83x
          have n3x := nx.2.2 lt
          obtain ⟨b', rfl⟩ : ∃ b', b = b' + 1 := ⟨b - 1, by omega⟩
          have ei2x : (aIf pl (aIf tm (rV B n st).2)).1 = (rV B n st).2.1 := aIf_1.trans ei
          have el2x := aIf_l (k := pl) (st := aIf tm (rV B n st).2)
          have cg : Cst G B n E ru (goN B n (aIf pl (aIf tm (rV B n st).2))) := c3x.go h9x (by rw [ei2x]; exact g1x) g2x
          have l1x : (goN B n (aIf pl (aIf tm (rV B n st).2))).1 = nxt B n (rV B n st).2.1 := by show nxt B n (aIf pl (aIf tm (rV B n st).2)).1 = _; rw [ei2x]
          have l2x : (goN B n (aIf pl (aIf tm (rV B n st).2))).2.1 = (rV B n st).2.2.1 := aIf_c.trans ec
          have l3x : (goN B n (aIf pl (aIf tm (rV B n st).2))).2.2.length = (aIf pl (aIf tm (rV B n st).2)).2.2.length := rfl
          refine (ih _ (by rw [← hN, l1x]; omega) 401 b' 0 (plS B n (rV B n st).2.1) (i + 1) (goN B n (aIf pl (aIf tm (rV B n st).2))) G rfl (by omega) (by rw [l1x]; omega) (Or.inl rfl) pl' (by rw [l1x]; omega) ?_ cg).imp ?_
          · rw [l1x, l2x, l3x, el2x, el, if_neg z83x, if_pos (rfl : 0 = 0)]
            rw [if_pos z27x] at hbd ⊢
            rw [if_neg z50x]
            omega
          · rintro r h' ⟨rfl, T, rfl, t1x⟩
            exact ⟨rfl, T, rfl, by rw [cnR_p e0x z45x z83x]; exact t1x.tr (q3x.tr (QFr.of g2x))⟩
  · have z27x : ¬ tm = 0 := fun q => b27x ((opV_ne tm htl (by omega)).mpr q)
    rw [if_neg z27x] at hbd el
    refine e_aload rfl rfl ?_
    refine e_getR rfl hA.1 hA.2.2.1 ?_
    refine e_iload rfl rfl ?_
    refine Eg.c2 rfl (by decide) (by decide) rfl (Nat.le_of_ble_eq_true rfl) (xrcv_of rfl hU.1 rfl) ((cs_raddS (e := (tm, 0)) hA hU c1x (by omega) (opV_pc z27x)).mono (by decide)) (fun r1x h1x hq => ?_)
    obtain ⟨rfl, K, rfl, c2x, q2x⟩ := hq
    rw [← aIf_p z27x] at c2x
    replace q2x := q1x.tr q2x
    have r2x : Rd K B n E (rV B n st).2.1 0 := by have := c2x.1; rw [ei] at this; exact this
    refine e_aload rfl rfl ?_
    refine Eg.p1 rfl (by decide) (by decide) rfl (Nat.le_of_ble_eq_true rfl) (xrcv_of rfl hA.1 rfl) ((cs_timesHere hT hA r2x).mono (by decide)) ?_
    refine e_istore rfl ?_
    refine e_iload rfl rfl ?_
    refine e_ipush rfl ?_
    refine e_cne_b rfl (fun b45x => ?_) (fun b45x => ?_)
    · have z45x : ¬ tmS B n (rV B n st).2.1 = 0 := fun q => b45x ((opV_ne _ (by omega) (by omega)).mpr q)
      refine e_aload rfl rfl ?_
      refine e_getR rfl hA.1 hA.2.1 ?_
      refine e_getIv rfl hT.1 r2x.2.2.1 ?_
      refine e_ifne_f rfl (by decide) ?_
      refine e_iload rfl rfl ?_
      refine e_ipush rfl ?_
      refine e_cne_t rfl b45x ?_
      refine e_ipush rfl ?_
      refine e_goto rfl ?_
      refine e_istore rfl ?_
      refine e_iload rfl rfl ?_
      refine e_ifeq_f rfl (by decide) ?_
      refine e_aload rfl rfl ?_
      refine e_getR rfl hA.1 hA.2.1 ?_
      refine Eg.c1 rfl (by decide) (by decide) rfl (Nat.le_of_ble_eq_true rfl) (xrcv_of rfl hT.1 rfl) ((cs_step hT r2x).mono (by decide)) (fun r1x h1x hq => ?_)
      obtain ⟨rfl, G, rfl, g1x, g2x⟩ := hq
      refine e_iinc rfl rfl ?_
      refine e_goto rfl ?_
      refine Eg.pk [0, 1, 2, 3, 4] [4, 3, 1, 0, 2] rfl (by decide) ?_
      rw [nI_1]
      have nx := nxt_le (B := B) (n := n) (p := (rV B n st).2.1) r2x.le
      have lt := tmS_lt z45x
      have n3x := nx.2.2 lt
      obtain ⟨a', rfl⟩ : ∃ a', a = a' + 1 := ⟨a - 1, by omega⟩
      have cg : Cst G B n E ru (goN B n (aIf tm (rV B n st).2)) := c2x.go h9x (by rw [ei]; exact g1x) g2x
      have l1x : (goN B n (aIf tm (rV B n st).2)).1 = nxt B n (rV B n st).2.1 := by show nxt B n (aIf tm (rV B n st).2).1 = _; rw [ei]
      have l2x : (goN B n (aIf tm (rV B n st).2)).2.1 = (rV B n st).2.2.1 := ec
      have l3x : (goN B n (aIf tm (rV B n st).2)).2.2.length = (aIf tm (rV B n st).2).2.2.length := rfl
      refine (ih _ (by rw [← hN, l1x]; omega) a' b (tmS B n (rV B n st).2.1) pl (i + 1) (goN B n (aIf tm (rV B n st).2)) G rfl (by rw [l1x]; omega) (by rw [l1x]; omega) tl hpl (by rw [l1x]; omega) ?_ cg).imp ?_
      · rw [l1x, l2x, l3x, el, if_neg z45x]
        by_cases z : pl = 0
        · rw [if_pos z] at hbd ⊢; omega
        · rw [if_neg z] at hbd ⊢; omega
      · rintro r h' ⟨rfl, T, rfl, t1x⟩
        exact ⟨rfl, T, rfl, by rw [cnR_t e0x z45x]; exact t1x.tr (q2x.tr (QFr.of g2x))⟩
    · have z45x := (opV_ne _ (by omega) (by omega)).mp b45x
      refine e_iload rfl rfl ?_
      refine e_ipush rfl ?_
      refine e_ceq_b rfl (fun b50x => ?_) (fun b50x => ?_)
      · have z50x := (opV_ne pl hpl6 (by omega)).mp b50x
        have c3x : Cst K B n E ru (aIf pl (aIf tm (rV B n st).2)) := by rw [z50x, aIf_0]; exact c2x
        have q3x := q2x
        have r3x := r2x
        refine e_aload rfl rfl ?_
        refine Eg.p1 rfl (by decide) (by decide) rfl (Nat.le_of_ble_eq_true rfl) (xrcv_of rfl hA.1 rfl) ((cs_plusHere hT hA r3x).mono (by decide)) ?_
        refine e_istore rfl ?_
        refine e_aload rfl rfl ?_
        refine e_getR rfl hA.1 hA.2.1 ?_
        refine e_getIv rfl hT.1 r3x.2.2.1 ?_
        refine e_ifne_f rfl (by decide) ?_
        refine e_iload rfl rfl ?_
        refine e_ipush rfl ?_
        refine e_cne_f rfl b45x ?_
        refine e_iload rfl rfl ?_
        refine e_ipush rfl ?_
        refine e_ceq_b rfl (fun b83x => ?_) (fun b83x => ?_)
        · have z83x := (opV_ne _ (by omega) (by omega)).mp b83x
          refine e_ipush rfl ?_
          refine e_istore rfl ?_
          refine e_iload rfl rfl ?_
          refine e_ifeq_t rfl rfl ?_
          refine e_iinc rfl rfl ?_
          refine e_goto rfl ?_
          refine e_iload rfl rfl ?_
          refine e_ifeq_t rfl rfl ?_
          exact Eg.ret rfl (by decide) rfl ⟨rfl, K, rfl, by rw [cnR_e e0x z45x z83x]; exact ⟨q3x, Or.inl ⟨rfl, c3x⟩⟩⟩
        · have z83x : ¬ plS B n (rV B n st).2.1 = 0 := fun q => b83x ((opV_ne _ (by omega) (by omega)).mpr q)
          refine e_ipush rfl ?_
          refine e_goto rfl ?_
          refine e_istore rfl ?_
          refine e_iload rfl rfl ?_
          refine e_ifeq_f rfl (by decide) ?_
          refine e_aload rfl rfl ?_
          refine e_getR rfl hA.1 hA.2.1 ?_
          refine Eg.c1 rfl (by decide) (by decide) rfl (Nat.le_of_ble_eq_true rfl) (xrcv_of rfl hT.1 rfl) ((cs_step hT r3x).mono (by decide)) (fun r1x h1x hq => ?_)
          obtain ⟨rfl, G, rfl, g1x, g2x⟩ := hq
          refine e_iinc rfl rfl ?_
          refine e_goto rfl ?_
          refine Eg.pk [0, 1, 2, 3, 4] [4, 3, 2, 1, 0] rfl (by decide) ?_
          rw [nI_1]
          have nx := nxt_le (B := B) (n := n) (p := (rV B n st).2.1) r2x.le
          rw [z45x]
          have lt := plS_lt z83x
          have n3x := nx.2.2 lt
          obtain ⟨b', rfl⟩ : ∃ b', b = b' + 1 := ⟨b - 1, by omega⟩
          have ei2x : (aIf pl (aIf tm (rV B n st).2)).1 = (rV B n st).2.1 := aIf_1.trans ei
          have el2x := aIf_l (k := pl) (st := aIf tm (rV B n st).2)
          have cg : Cst G B n E ru (goN B n (aIf pl (aIf tm (rV B n st).2))) := c3x.go h9x (by rw [ei2x]; exact g1x) g2x
          have l1x : (goN B n (aIf pl (aIf tm (rV B n st).2))).1 = nxt B n (rV B n st).2.1 := by show nxt B n (aIf pl (aIf tm (rV B n st).2)).1 = _; rw [ei2x]
          have l2x : (goN B n (aIf pl (aIf tm (rV B n st).2))).2.1 = (rV B n st).2.2.1 := aIf_c.trans ec
          have l3x : (goN B n (aIf pl (aIf tm (rV B n st).2))).2.2.length = (aIf pl (aIf tm (rV B n st).2)).2.2.length := rfl
          refine (ih _ (by rw [← hN, l1x]; omega) 401 b' 0 (plS B n (rV B n st).2.1) (i + 1) (goN B n (aIf pl (aIf tm (rV B n st).2))) G rfl (by omega) (by rw [l1x]; omega) (Or.inl rfl) pl' (by rw [l1x]; omega) ?_ cg).imp ?_
          · rw [l1x, l2x, l3x, el2x, el, if_neg z83x, if_pos (rfl : 0 = 0)]
            rw [if_pos z50x] at hbd ⊢
            omega
          · rintro r h' ⟨rfl, T, rfl, t1x⟩
            exact ⟨rfl, T, rfl, by rw [cnR_p e0x z45x z83x]; exact t1x.tr (q3x.tr (QFr.of g2x))⟩
      · have z50x : ¬ pl = 0 := fun q => b50x ((opV_ne pl hpl6 (by omega)).mpr q)
        rw [if_neg z50x] at hbd
        refine e_aload rfl rfl ?_
        refine e_getR rfl hA.1 hA.2.2.1 ?_
        refine e_iload rfl rfl ?_
        refine Eg.c2 rfl (by decide) (by decide) rfl (Nat.le_of_ble_eq_true rfl) (xrcv_of rfl hU.1 rfl) ((cs_raddS (e := (pl, 0)) hA hU c2x (by omega) (opV_pc z50x)).mono (by decide)) (fun r1x h1x hq => ?_)
        obtain ⟨rfl, M, rfl, c3x, q3x⟩ := hq
        rw [← aIf_p z50x] at c3x
        replace q3x := q2x.tr q3x
        have r3x : Rd M B n E (rV B n st).2.1 0 := by have := c3x.1; rw [aIf_1, aIf_1] at this; exact this
        refine e_aload rfl rfl ?_
        refine Eg.p1 rfl (by decide) (by decide) rfl (Nat.le_of_ble_eq_true rfl) (xrcv_of rfl hA.1 rfl) ((cs_plusHere hT hA r3x).mono (by decide)) ?_
        refine e_istore rfl ?_
        refine e_aload rfl rfl ?_
        refine e_getR rfl hA.1 hA.2.1 ?_
        refine e_getIv rfl hT.1 r3x.2.2.1 ?_
        refine e_ifne_f rfl (by decide) ?_
        refine e_iload rfl rfl ?_
        refine e_ipush rfl ?_
        refine e_cne_f rfl b45x ?_
        refine e_iload rfl rfl ?_
        refine e_ipush rfl ?_
        refine e_ceq_b rfl (fun b83x => ?_) (fun b83x => ?_)
        · have z83x := (opV_ne _ (by omega) (by omega)).mp b83x
          refine e_ipush rfl ?_
          refine e_istore rfl ?_
          refine e_iload rfl rfl ?_
          refine e_ifeq_t rfl rfl ?_
          refine e_iinc rfl rfl ?_
          refine e_goto rfl ?_
          refine e_iload rfl rfl ?_
          refine e_ifeq_t rfl rfl ?_
          exact Eg.ret rfl (by decide) rfl ⟨rfl, M, rfl, by rw [cnR_e e0x z45x z83x]; exact ⟨q3x, Or.inl ⟨rfl, c3x⟩⟩⟩
        · have z83x : ¬ plS B n (rV B n st).2.1 = 0 := fun q => b83x ((opV_ne _ (by omega) (by omega)).mpr q)
          refine e_ipush rfl ?_
          refine e_goto rfl ?_
          refine e_istore rfl ?_
          refine e_iload rfl rfl ?_
          refine e_ifeq_f rfl (by decide) ?_
          refine e_aload rfl rfl ?_
          refine e_getR rfl hA.1 hA.2.1 ?_
          refine Eg.c1 rfl (by decide) (by decide) rfl (Nat.le_of_ble_eq_true rfl) (xrcv_of rfl hT.1 rfl) ((cs_step hT r3x).mono (by decide)) (fun r1x h1x hq => ?_)
          obtain ⟨rfl, G, rfl, g1x, g2x⟩ := hq
          refine e_iinc rfl rfl ?_
          refine e_goto rfl ?_
          refine Eg.pk [0, 1, 2, 3, 4] [4, 3, 2, 1, 0] rfl (by decide) ?_
          rw [nI_1]
          have nx := nxt_le (B := B) (n := n) (p := (rV B n st).2.1) r2x.le
          rw [z45x]
          have lt := plS_lt z83x
          have n3x := nx.2.2 lt
          obtain ⟨b', rfl⟩ : ∃ b', b = b' + 1 := ⟨b - 1, by omega⟩
          have ei2x : (aIf pl (aIf tm (rV B n st).2)).1 = (rV B n st).2.1 := aIf_1.trans ei
          have el2x := aIf_l (k := pl) (st := aIf tm (rV B n st).2)
          have cg : Cst G B n E ru (goN B n (aIf pl (aIf tm (rV B n st).2))) := c3x.go h9x (by rw [ei2x]; exact g1x) g2x
          have l1x : (goN B n (aIf pl (aIf tm (rV B n st).2))).1 = nxt B n (rV B n st).2.1 := by show nxt B n (aIf pl (aIf tm (rV B n st).2)).1 = _; rw [ei2x]
          have l2x : (goN B n (aIf pl (aIf tm (rV B n st).2))).2.1 = (rV B n st).2.2.1 := aIf_c.trans ec
          have l3x : (goN B n (aIf pl (aIf tm (rV B n st).2))).2.2.length = (aIf pl (aIf tm (rV B n st).2)).2.2.length := rfl
          refine (ih _ (by rw [← hN, l1x]; omega) 401 b' 0 (plS B n (rV B n st).2.1) (i + 1) (goN B n (aIf pl (aIf tm (rV B n st).2))) G rfl (by omega) (by rw [l1x]; omega) (Or.inl rfl) pl' (by rw [l1x]; omega) ?_ cg).imp ?_
          · rw [l1x, l2x, l3x, el2x, el, if_neg z83x, if_pos (rfl : 0 = 0)]
            rw [if_neg z50x]
            omega
          · rintro r h' ⟨rfl, T, rfl, t1x⟩
            exact ⟨rfl, T, rfl, by rw [cnR_p e0x z45x z83x]; exact t1x.tr (q3x.tr (QFr.of g2x))⟩
end CR2x
