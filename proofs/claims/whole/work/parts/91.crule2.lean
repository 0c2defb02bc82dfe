/-! A RULE read, the one side: sums, signs -/
section CR2x
variable {X : xX} {h : xH} {sh : List (Nat × Nat)} {I : Nat → Nat → Int32} {L : Nat → Nat → Int64} {R : Nat → Nat → Option Nat} {B : Nat → Nat} {n E ru : Nat} {st : rS}
theorem cs_rvalW (hT : TpAt sh R) (hA : RRAt sh R ru) (hU : RuAt sh R ru) {F : Int32} (hw : Csw I B n E ru F) : Ec X 2 79 [.ref 7] (sh, I, L, R) (fun r h' => r = none ∧ ∃ J : Nat → Nat → Int32, h' = (sh, J, L, R) ∧ Csw J B n E ru F ∧ QFr I J ru) := by
  obtain ⟨h0x, p, c, l, hr, h2x, h3x, h4x, h5x⟩ := id hw
  have h9x := hA.2.2.2
  refine Ec.of (Nat.le_of_ble_eq_true rfl) ?_
  refine e_aload rfl rfl ?_
  refine e_getR rfl hA.1 hA.2.1 ?_
  refine Eg.p1 rfl (by decide) (by decide) rfl (Nat.le_of_ble_eq_true rfl) (xrcv_of rfl hT.1 rfl) ((cs_atNumber hT hr).mono (by decide)) ?_
  refine e_istore rfl ?_
  refine e_aload rfl rfl ?_
  refine e_getR rfl hA.1 hA.2.1 ?_
  refine Eg.p1 rfl (by decide) (by decide) rfl (Nat.le_of_ble_eq_true rfl) (xrcv_of rfl hT.1 rfl) ((cs_wordHere hT hr).mono (by decide)) ?_
  refine e_istore rfl ?_
  refine e_iload rfl rfl ?_
  refine e_ifne_b rfl (fun b17x => ?_) (fun b17x => ?_)
  · replace b17x := yn_n0.mp b17x
    refine e_iload rfl rfl ?_
    refine e_ifeq_f rfl (yn_n0.mpr b17x) ?_
    refine e_aload rfl rfl ?_
    refine e_getR rfl hA.1 hA.2.1 ?_
    refine Eg.p1 rfl (by decide) (by decide) rfl (Nat.le_of_ble_eq_true rfl) (xrcv_of rfl hT.1 rfl) ((cs_numberHere hT hr).mono (by decide)) ?_
    refine e_ifge_b rfl (fun b49x => ?_) (fun b49x => ?_)
    · refine e_aload rfl rfl ?_
      refine e_getIv rfl hA.1 h2x ?_
      refine e_ipush rfl ?_
      refine e_clt_b rfl (fun b69x => ?_) (fun b69x => ?_)
      · have b69x := (nI_lti (b := 60) (by omega) (by decide)).mp b69x
        refine e_aload rfl rfl ?_
        refine e_getR rfl hA.1 hA.2.2.1 ?_
        refine e_iload rfl rfl ?_
        refine e_ifeq_f rfl (yn_n0.mpr b17x) ?_
        refine e_ipush rfl ?_
        refine e_aload rfl rfl ?_
        refine e_getR rfl hA.1 hA.2.1 ?_
        refine Eg.p1 rfl (by decide) (by decide) rfl (Nat.le_of_ble_eq_true rfl) (xrcv_of rfl hT.1 rfl) ((cs_numberHere hT hr).mono (by decide)) ?_
        refine e_iadd rfl ?_
        refine e_goto rfl ?_
        refine Eg.c2 rfl (by decide) (by decide) rfl (Nat.le_of_ble_eq_true rfl) (xrcv_of rfl hU.1 rfl) ((cs_radd hU (x := 1000 + (tvl B n p)) h4x h5x).mono (by decide)) (fun r1x h1x hq => ?_)
        obtain ⟨rfl, K, rfl, ka⟩ := hq
        obtain ⟨kw, kq⟩ := hw.ad h9x h4x h5x ka
        obtain ⟨-, p2x, c2x, l2x, k1x, k2x, k3x, k4x, k5x⟩ := id kw
        have ek2x : K 7 2 = nI c := by
          rcases ka with ⟨-, e⟩ | ⟨-, -, -, e⟩
          · rw [e]; exact h2x
          · exact (e 7 2 (by omega) (by omega)).trans h2x
        refine e_aload rfl rfl ?_
        refine e_dupr rfl ?_
        refine e_getIv rfl hA.1 ek2x ?_
        refine e_ipush rfl ?_
        refine e_iadd rfl ?_
        rw [show (nI c) + 1 = nI (c + 1) from nI_1 _]
        refine e_putIJ rfl hA.1 (fun J21x g21x f21x => ?_)
        refine e_aload rfl rfl ?_
        refine e_getR rfl hA.1 hA.2.1 ?_
        refine Eg.c1 rfl (by decide) (by decide) rfl (Nat.le_of_ble_eq_true rfl) (xrcv_of rfl hT.1 rfl) ((cs_step hT (k1x.any (fun i k hi => f21x i k (by omega)))).mono (by decide)) (fun r1x h1x hq => ?_)
        obtain ⟨rfl, G, rfl, g1x, g2x⟩ := hq
        have kg : ∀ i k, (i ≠ 1 ∨ (k ≠ 2 ∧ k ≠ 7)) → (i ≠ 7 ∨ k ≠ 2) → G i k = K i k := fun i k a b => (g2x i k a).trans (f21x i k b)
        exact Eg.ret rfl (by decide) rfl ⟨rfl, G, rfl, ⟨h0x, _, c + 1, l2x, g1x, (g2x 7 2 (by decide)).trans g21x, by omega, (kg ru 1 (by omega) (by omega)).trans k4x, k5x⟩, kq.tr (fun i k a b c d => kg i k a b)⟩
      · refine e_aload rfl rfl ?_
        refine e_getR rfl hA.1 hA.2.1 ?_
        refine e_ipush rfl ?_
        refine Eg.c2 rfl (by decide) (by decide) rfl (Nat.le_of_ble_eq_true rfl) (xrcv_of rfl hT.1 rfl) ((cs_fail hT hr (k := 3)).mono (by decide)) (fun r1x h1x hq => ?_)
        obtain ⟨rfl, J, rfl, a1x, a2x⟩ := hq
        rw [fl_n h0x] at a1x
        refine e_goto rfl ?_
        exact Eg.ret rfl (by decide) rfl ⟨rfl, J, rfl, ⟨h0x, p, c, l, a1x, (a2x 7 2 (by decide)).trans h2x, h3x, (a2x ru 1 (by omega)).trans h4x, h5x⟩, QFr.of a2x⟩
    · refine e_aload rfl rfl ?_
      refine e_getR rfl hA.1 hA.2.1 ?_
      refine e_ipush rfl ?_
      refine Eg.c2 rfl (by decide) (by decide) rfl (Nat.le_of_ble_eq_true rfl) (xrcv_of rfl hT.1 rfl) ((cs_fail hT hr (k := 1)).mono (by decide)) (fun r1x h1x hq => ?_)
      obtain ⟨rfl, J, rfl, a1x, a2x⟩ := hq
      rw [fl_n h0x] at a1x
      refine e_goto rfl ?_
      exact Eg.ret rfl (by decide) rfl ⟨rfl, J, rfl, ⟨h0x, p, c, l, a1x, (a2x 7 2 (by decide)).trans h2x, h3x, (a2x ru 1 (by omega)).trans h4x, h5x⟩, QFr.of a2x⟩
  · replace b17x := yn_0.mp b17x
    refine e_iload rfl rfl ?_
    refine Eg.p1 rfl (by decide) (by decide) rfl (Nat.le_of_ble_eq_true rfl) (xrcv_ofs (Or.inl rfl)) (cs_isVW.mono (by decide)) ?_
    refine e_ifne_b rfl (fun b24x => ?_) (fun b24x => ?_)
    · replace b24x := yn_n0.mp b24x
      refine e_iload rfl rfl ?_
      refine e_ifeq_t rfl (yn_0.mpr b17x) ?_
      refine e_aload rfl rfl ?_
      refine e_getIv rfl hA.1 h2x ?_
      refine e_ipush rfl ?_
      refine e_clt_b rfl (fun b69x => ?_) (fun b69x => ?_)
      · have b69x := (nI_lti (b := 60) (by omega) (by decide)).mp b69x
        refine e_aload rfl rfl ?_
        refine e_getR rfl hA.1 hA.2.2.1 ?_
        refine e_iload rfl rfl ?_
        refine e_ifeq_t rfl (yn_0.mpr b17x) ?_
        refine e_iload rfl rfl ?_
        refine Eg.c2 rfl (by decide) (by decide) rfl (Nat.le_of_ble_eq_true rfl) (xrcv_of rfl hU.1 rfl) ((cs_radd hU (x := wdH B n p) h4x h5x).mono (by decide)) (fun r1x h1x hq => ?_)
        obtain ⟨rfl, K, rfl, ka⟩ := hq
        obtain ⟨kw, kq⟩ := hw.ad h9x h4x h5x ka
        obtain ⟨-, p2x, c2x, l2x, k1x, k2x, k3x, k4x, k5x⟩ := id kw
        have ek2x : K 7 2 = nI c := by
          rcases ka with ⟨-, e⟩ | ⟨-, -, -, e⟩
          · rw [e]; exact h2x
          · exact (e 7 2 (by omega) (by omega)).trans h2x
        refine e_aload rfl rfl ?_
        refine e_dupr rfl ?_
        refine e_getIv rfl hA.1 ek2x ?_
        refine e_ipush rfl ?_
        refine e_iadd rfl ?_
        rw [show (nI c) + 1 = nI (c + 1) from nI_1 _]
        refine e_putIJ rfl hA.1 (fun J22x g22x f22x => ?_)
        refine e_aload rfl rfl ?_
        refine e_getR rfl hA.1 hA.2.1 ?_
        refine Eg.c1 rfl (by decide) (by decide) rfl (Nat.le_of_ble_eq_true rfl) (xrcv_of rfl hT.1 rfl) ((cs_step hT (k1x.any (fun i k hi => f22x i k (by omega)))).mono (by decide)) (fun r1x h1x hq => ?_)
        obtain ⟨rfl, G, rfl, g1x, g2x⟩ := hq
        have kg : ∀ i k, (i ≠ 1 ∨ (k ≠ 2 ∧ k ≠ 7)) → (i ≠ 7 ∨ k ≠ 2) → G i k = K i k := fun i k a b => (g2x i k a).trans (f22x i k b)
        exact Eg.ret rfl (by decide) rfl ⟨rfl, G, rfl, ⟨h0x, _, c + 1, l2x, g1x, (g2x 7 2 (by decide)).trans g22x, by omega, (kg ru 1 (by omega) (by omega)).trans k4x, k5x⟩, kq.tr (fun i k a b c d => kg i k a b)⟩
      · refine e_aload rfl rfl ?_
        refine e_getR rfl hA.1 hA.2.1 ?_
        refine e_ipush rfl ?_
        refine Eg.c2 rfl (by decide) (by decide) rfl (Nat.le_of_ble_eq_true rfl) (xrcv_of rfl hT.1 rfl) ((cs_fail hT hr (k := 3)).mono (by decide)) (fun r1x h1x hq => ?_)
        obtain ⟨rfl, J, rfl, a1x, a2x⟩ := hq
        rw [fl_n h0x] at a1x
        refine e_goto rfl ?_
        exact Eg.ret rfl (by decide) rfl ⟨rfl, J, rfl, ⟨h0x, p, c, l, a1x, (a2x 7 2 (by decide)).trans h2x, h3x, (a2x ru 1 (by omega)).trans h4x, h5x⟩, QFr.of a2x⟩
    · replace b24x := yn_0.mp b24x
      refine e_aload rfl rfl ?_
      refine e_getR rfl hA.1 hA.2.1 ?_
      refine e_ipush rfl ?_
      refine Eg.c2 rfl (by decide) (by decide) rfl (Nat.le_of_ble_eq_true rfl) (xrcv_of rfl hT.1 rfl) ((cs_fail hT hr (k := 0)).mono (by decide)) (fun r1x h1x hq => ?_)
      obtain ⟨rfl, J, rfl, a1x, a2x⟩ := hq
      rw [fl_n h0x] at a1x
      refine e_goto rfl ?_
      exact Eg.ret rfl (by decide) rfl ⟨rfl, J, rfl, ⟨h0x, p, c, l, a1x, (a2x 7 2 (by decide)).trans h2x, h3x, (a2x ru 1 (by omega)).trans h4x, h5x⟩, QFr.of a2x⟩
def opV (k : Nat) : Int32 := if k = 0 then -1 else pcE (k, 0)
theorem opV_ne : ∀ k, k < 16 → (k = 0 ∨ k = 2 ∨ k = 3 ∨ k = 13 ∨ k = 14 ∨ k = 15) → (opV k = -1 ↔ k = 0) := by decide
theorem opV_pc {k : Nat} (h : ¬ k = 0) : opV k = pcE (k, 0) := if_neg h
theorem cs_timesHere (hT : TpAt sh R) (hA : RRAt sh R ru) {p : Nat} {f : Int32} (hr : Rd I B n E p f) : Ec X 2 77 [.ref 7] (sh, I, L, R) (fun r h' => r = some (.int (opV (tmS B n p))) ∧ h' = (sh, I, L, R)) := by
  refine Ec.of (Nat.le_of_ble_eq_true rfl) ?_
  refine e_aload rfl rfl ?_
  refine e_getR rfl hA.1 hA.2.1 ?_
  refine Eg.p1 rfl (by decide) (by decide) rfl (Nat.le_of_ble_eq_true rfl) (xrcv_of rfl hT.1 rfl) ((cs_signHere hT hr).mono (by decide)) ?_
  refine e_istore rfl ?_
  refine e_iload rfl rfl ?_
  refine e_ipush rfl ?_
  refine e_ceq_b rfl (fun b11x => ?_) (fun b11x => ?_)
  · refine e_iload rfl rfl ?_
    refine e_goto rfl ?_
    refine Eg.ret rfl (by decide) rfl ⟨congrArg (fun z => some (Value.int z)) ?_, rfl⟩
    rw [show tmS B n p = 13 from by unfold tmS; rw [if_pos b11x], b11x]; rfl
  · refine e_iload rfl rfl ?_
    refine e_ipush rfl ?_
    refine e_ceq_b rfl (fun b17x => ?_) (fun b17x => ?_)
    · refine e_iload rfl rfl ?_
      refine e_goto rfl ?_
      refine Eg.ret rfl (by decide) rfl ⟨congrArg (fun z => some (Value.int z)) ?_, rfl⟩
      rw [show tmS B n p = 14 from by unfold tmS; rw [if_neg b11x, if_pos b17x], b17x]; rfl
    · refine e_iload rfl rfl ?_
      refine e_ipush rfl ?_
      refine e_cne_b rfl (fun b23x => ?_) (fun b23x => ?_)
      · refine e_ipush rfl ?_
        refine Eg.ret rfl (by decide) rfl ⟨congrArg (fun z => some (Value.int z)) ?_, rfl⟩
        rw [show tmS B n p = 0 from by unfold tmS; rw [if_neg b11x, if_neg b17x, if_neg b23x]]; rfl
      · refine e_iload rfl rfl ?_
        refine e_goto rfl ?_
        refine Eg.ret rfl (by decide) rfl ⟨congrArg (fun z => some (Value.int z)) ?_, rfl⟩
        rw [show tmS B n p = 15 from by unfold tmS; rw [if_neg b11x, if_neg b17x, if_pos b23x], b23x]; rfl
theorem cs_plusHere (hT : TpAt sh R) (hA : RRAt sh R ru) {p : Nat} {f : Int32} (hr : Rd I B n E p f) : Ec X 2 78 [.ref 7] (sh, I, L, R) (fun r h' => r = some (.int (opV (plS B n p))) ∧ h' = (sh, I, L, R)) := by
  refine Ec.of (Nat.le_of_ble_eq_true rfl) ?_
  refine e_aload rfl rfl ?_
  refine e_getR rfl hA.1 hA.2.1 ?_
  refine Eg.p1 rfl (by decide) (by decide) rfl (Nat.le_of_ble_eq_true rfl) (xrcv_of rfl hT.1 rfl) ((cs_signHere hT hr).mono (by decide)) ?_
  refine e_istore rfl ?_
  refine e_iload rfl rfl ?_
  refine e_ipush rfl ?_
  refine e_ceq_b rfl (fun b11x => ?_) (fun b11x => ?_)
  · refine e_iload rfl rfl ?_
    refine e_goto rfl ?_
    refine Eg.ret rfl (by decide) rfl ⟨congrArg (fun z => some (Value.int z)) ?_, rfl⟩
    rw [show plS B n p = 2 from by unfold plS; rw [if_pos b11x], b11x]; rfl
  · refine e_iload rfl rfl ?_
    refine e_ipush rfl ?_
    refine e_cne_b rfl (fun b17x => ?_) (fun b17x => ?_)
    · refine e_ipush rfl ?_
      refine Eg.ret rfl (by decide) rfl ⟨congrArg (fun z => some (Value.int z)) ?_, rfl⟩
      rw [show plS B n p = 0 from by unfold plS; rw [if_neg b11x, if_neg b17x]]; rfl
    · refine e_iload rfl rfl ?_
      refine e_goto rfl ?_
      refine Eg.ret rfl (by decide) rfl ⟨congrArg (fun z => some (Value.int z)) ?_, rfl⟩
      rw [show plS B n p = 3 from by unfold plS; rw [if_neg b11x, if_pos b17x], b17x]; rfl
/-- a sum's loop: operators that pend, then a value, and on -/
def cnR (B : Nat → Nat) (n a b tm pl : Nat) (st : rS) : Int32 × rS :=
  if ¬ (rV B n st).1 = 0 then rV B n st
  else if ¬ (tmL B n a (aIf tm (rV B n st).2)).1 = 0 then tmL B n a (aIf tm (rV B n st).2)
  else slL B n b (aIf pl (tmL B n a (aIf tm (rV B n st).2)).2)
theorem cnR_0 {st : rS} : cnR B n 401 401 0 0 st = rSum B n st := by
  unfold cnR rSum rTm aIf
  by_cases h : ¬ (rV B n st).1 = 0
  · rw [if_pos h, if_pos h, if_pos h]
  · rw [if_neg h, if_pos rfl, if_neg h, if_pos rfl]
theorem tmL_z {a : Nat} {st : rS} (h : tmS B n st.1 = 0) : tmL B n a st = (0, st) := by
  cases a with
  | zero => rfl
  | succ a => rw [tmL, if_pos h]
theorem slL_z {a : Nat} {st : rS} (h : plS B n st.1 = 0) : slL B n a st = (0, st) := by
  cases a with
  | zero => rfl
  | succ a => rw [slL, if_pos h]
theorem aIf_1 {k : Nat} {st : rS} : (aIf k st).1 = st.1 := by unfold aIf adE; split <;> rfl
theorem aIf_c {k : Nat} {st : rS} : (aIf k st).2.1 = st.2.1 := by unfold aIf adE; split <;> rfl
theorem aIf_l {k : Nat} {st : rS} : (aIf k st).2.2.length = st.2.2.length + (if k = 0 then 0 else 1) := by unfold aIf adE; split <;> simp
theorem cnR_t {a b tm pl : Nat} {st : rS} (h1x : (rV B n st).1 = 0) (h2x : ¬ tmS B n (rV B n st).2.1 = 0) : cnR B n (a + 1) b tm pl st = cnR B n a b (tmS B n (rV B n st).2.1) pl (goN B n (aIf tm (rV B n st).2)) := by
  unfold cnR
  rw [if_neg (fun q => q h1x)]
  have e1x : (aIf tm (rV B n st).2).1 = (rV B n st).2.1 := aIf_1
  have eT : tmL B n (a + 1) (aIf tm (rV B n st).2) = if ¬ (rV B n (goN B n (aIf tm (rV B n st).2))).1 = 0 then rV B n (goN B n (aIf tm (rV B n st).2)) else tmL B n a (adE (tmS B n (rV B n st).2.1) (rV B n (goN B n (aIf tm (rV B n st).2))).2) := by
    rw [tmL, e1x, if_neg h2x]
  rw [eT]
  by_cases h3x : ¬ (rV B n (goN B n (aIf tm (rV B n st).2))).1 = 0
  · rw [if_pos h3x, if_pos h3x, if_pos h3x]
  · rw [if_neg h3x, if_neg h3x]
    have e2x : ∀ s : rS, aIf (tmS B n (rV B n st).2.1) s = adE (tmS B n (rV B n st).2.1) s := fun s => if_neg h2x
    rw [e2x]
theorem cnR_p {a b tm pl : Nat} {st : rS} (h1x : (rV B n st).1 = 0) (h2x : tmS B n (rV B n st).2.1 = 0) (h3x : ¬ plS B n (rV B n st).2.1 = 0) : cnR B n a (b + 1) tm pl st = cnR B n 401 b 0 (plS B n (rV B n st).2.1) (goN B n (aIf pl (aIf tm (rV B n st).2))) := by
  have e1x : (aIf tm (rV B n st).2).1 = (rV B n st).2.1 := aIf_1
  have e2x : (aIf pl (aIf tm (rV B n st).2)).1 = (rV B n st).2.1 := aIf_1.trans e1x
  have eT : tmL B n a (aIf tm (rV B n st).2) = (0, aIf tm (rV B n st).2) := tmL_z (by rw [e1x]; exact h2x)
  have e3x : ∀ s : rS, aIf 0 s = s := fun s => if_pos rfl
  have e4x : ∀ s : rS, aIf (plS B n (rV B n st).2.1) s = adE (plS B n (rV B n st).2.1) s := fun s => if_neg h3x
  unfold cnR
  rw [if_neg (fun q => q h1x), eT, if_neg (fun q => q rfl), e3x, e4x]
  show slL B n (b + 1) (aIf pl (aIf tm (rV B n st).2)) = _
  rw [slL, e2x, if_neg h3x]
  unfold rTm
  by_cases h5x : ¬ (rV B n (goN B n (aIf pl (aIf tm (rV B n st).2)))).1 = 0
  · rw [if_pos h5x, if_pos h5x, if_pos h5x]
  · rw [if_neg h5x, if_neg h5x]
theorem cnR_e {a b tm pl : Nat} {st : rS} (h1x : (rV B n st).1 = 0) (h2x : tmS B n (rV B n st).2.1 = 0) (h3x : plS B n (rV B n st).2.1 = 0) : cnR B n a b tm pl st = (0, aIf pl (aIf tm (rV B n st).2)) := by
  have e1x : (aIf tm (rV B n st).2).1 = (rV B n st).2.1 := aIf_1
  have e2x : (aIf pl (aIf tm (rV B n st).2)).1 = (rV B n st).2.1 := aIf_1.trans e1x
  unfold cnR
  rw [if_neg (fun q => q h1x), tmL_z (by rw [e1x]; exact h2x), if_neg (fun q => q rfl)]
  exact slL_z (by rw [e2x]; exact h3x)
theorem cs_sumLoop (hT : TpAt sh R) (hA : RRAt sh R ru) (hU : RuAt sh R ru) : ∀ (N a b tm pl i : Nat) (st : rS) (I : Nat → Nat → Int32), n - st.1 ≤ N → n - st.1 ≤ a → n - st.1 ≤ b → (tm = 0 ∨ tm = 13 ∨ tm = 14 ∨ tm = 15) → (pl = 0 ∨ pl = 2 ∨ pl = 3) → 2 * i ≤ st.1 → 2 * (st.2.2.length + (if tm = 0 then 0 else 1) + (if pl = 0 then 0 else 1)) ≤ 2 * st.2.1 + st.1 → Cst I B n E ru st → Eg X xTc 2 76 9 [(0, .ref 7), (1, .int (opV tm)), (2, .int (opV pl)), (3, .int 1), (4, .int (nI i))] [] (sh, I, L, R) (fun r h' => r = none ∧ ∃ J : Nat → Nat → Int32, h' = (sh, J, L, R) ∧ rRes I J B n E ru (cnR B n a b tm pl st)) := by
  have h9x := hA.2.2.2
  intro N
  induction N with
  | zero =>
    intro a b tm pl i st I hN ha hb htm hpl hi hbd hr
    sorry
  | succ N ih =>
    intro a b tm pl i st I hN ha hb htm hpl hi hbd hr
    sorry
end CR2x
