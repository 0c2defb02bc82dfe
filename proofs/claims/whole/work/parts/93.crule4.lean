/-! A RULE read, the one side: facts and tests -/
section CR4x
variable {X : xX} {h : xH} {sh : List (Nat × Nat)} {I : Nat → Nat → Int32} {L : Nat → Nat → Int64} {R : Nat → Nat → Option Nat} {B : Nat → Nat} {n E ru : Nat} {st : rS}
theorem cs_testW (hT : TpAt sh R) (hA : RRAt sh R ru) (hU : RuAt sh R ru) {m : Nat} (hF : (∀ (I : Nat → Nat → Int32) (d : Nat) (F : Int32), d + m = 10 → Csw I B n E ru F → Ec X (2 * m + 3 + 1) 74 [.ref 7, .int (nI d)] (sh, I, L, R) (fun r h' => r = none ∧ ∃ J : Nat → Nat → Int32, h' = (sh, J, L, R) ∧ Csw J B n E ru F ∧ QFr I J ru))) : (∀ (I : Nat → Nat → Int32) (d : Nat) (F : Int32), d + m = 10 → Csw I B n E ru F → Ec X (2 * m + 4 + 1) 73 [.ref 7, .int (nI d)] (sh, I, L, R) (fun r h' => r = none ∧ ∃ J : Nat → Nat → Int32, h' = (sh, J, L, R) ∧ Csw J B n E ru F ∧ QFr I J ru)) := by
  intro I d F hd hw
  obtain ⟨h0x, p0x, -, -, r0x, -⟩ := id hw
  refine Ec.of (Nat.le_of_ble_eq_true rfl) ?_
  refine e_ipush rfl ?_
  refine e_istore rfl ?_
  refine e_ipush rfl ?_
  refine e_istore rfl ?_
  refine e_ipush rfl ?_
  refine e_istore rfl ?_
  refine e_ipush rfl ?_
  refine e_istore rfl ?_
  refine e_iload rfl rfl ?_
  refine e_ifeq_f rfl (by decide) ?_
  refine e_iload rfl rfl ?_
  refine e_ipush rfl ?_
  refine e_cge_f rfl (by decide) ?_
  refine e_aload rfl rfl ?_
  refine e_iload rfl rfl ?_
  refine Eg.c2 rfl (by decide) (by decide) rfl (Nat.le_of_ble_eq_true rfl) (xrcv_of rfl hA.1 rfl) ((hF _ d F hd hw)) (fun r1x h1x hq => ?_)
  obtain ⟨rfl, K1x, rfl, v1x, k1x⟩ := hq
  replace k1x := QFr.tr (QFr.rf) k1x
  obtain ⟨-, p1x, -, -, r1x, -⟩ := id v1x
  refine e_iload rfl rfl ?_
  refine e_ifeq_t rfl rfl ?_
  refine e_aload rfl rfl ?_
  refine e_getR rfl hA.1 hA.2.1 ?_
  refine Eg.p1 rfl (by decide) (by decide) rfl (Nat.le_of_ble_eq_true rfl) (xrcv_of rfl hT.1 rfl) (((cs_wordHere hT r1x).mono (by omega))) ?_
  refine e_ipush rfl ?_
  refine e_cne_b rfl (fun b50x => ?_) (fun b50x => ?_)
  · refine e_ipush rfl ?_
    refine e_istore rfl ?_
    refine e_iload rfl rfl ?_
    refine e_ifne_f rfl rfl ?_
    refine e_iload rfl rfl ?_
    refine e_ifeq_t rfl rfl ?_
    refine e_aload rfl rfl ?_
    refine e_getR rfl hA.1 hA.2.1 ?_
    refine Eg.p1 rfl (by decide) (by decide) rfl (Nat.le_of_ble_eq_true rfl) (xrcv_of rfl hT.1 rfl) (((cs_wordHere hT r1x).mono (by omega))) ?_
    refine e_ipush rfl ?_
    refine e_cne_b rfl (fun b85x => ?_) (fun b85x => ?_)
    · refine e_ipush rfl ?_
      refine e_istore rfl ?_
      refine e_aload rfl rfl ?_
      refine e_getR rfl hA.1 hA.2.1 ?_
      refine e_getIv rfl hT.1 r1x.2.2.1 ?_
      refine e_ifne_t rfl h0x ?_
      refine e_ipush rfl ?_
      refine e_istore rfl ?_
      refine e_iload rfl rfl ?_
      refine e_ifeq_t rfl rfl ?_
      refine e_iinc rfl rfl ?_
      refine e_goto rfl ?_
      refine e_iload rfl rfl ?_
      refine e_ifeq_t rfl rfl ?_
      exact Eg.ret rfl (by decide) rfl ⟨rfl, K1x, rfl, v1x, k1x⟩
    · refine e_ipush rfl ?_
      refine e_goto rfl ?_
      refine e_istore rfl ?_
      refine e_aload rfl rfl ?_
      refine e_getR rfl hA.1 hA.2.1 ?_
      refine e_getIv rfl hT.1 r1x.2.2.1 ?_
      refine e_ifne_t rfl h0x ?_
      refine e_ipush rfl ?_
      refine e_istore rfl ?_
      refine e_iload rfl rfl ?_
      refine e_ifeq_t rfl rfl ?_
      refine e_iinc rfl rfl ?_
      refine e_goto rfl ?_
      refine e_iload rfl rfl ?_
      refine e_ifeq_t rfl rfl ?_
      exact Eg.ret rfl (by decide) rfl ⟨rfl, K1x, rfl, v1x, k1x⟩
  · refine e_ipush rfl ?_
    refine e_goto rfl ?_
    refine e_istore rfl ?_
    refine e_iload rfl rfl ?_
    refine e_ifne_t rfl (by decide) ?_
    refine e_aload rfl rfl ?_
    refine e_getR rfl hA.1 hA.2.1 ?_
    refine e_getIv rfl hT.1 r1x.2.2.1 ?_
    refine e_ifne_t rfl h0x ?_
    refine e_ipush rfl ?_
    refine e_istore rfl ?_
    refine e_iload rfl rfl ?_
    refine e_ifeq_t rfl rfl ?_
    refine e_iinc rfl rfl ?_
    refine e_goto rfl ?_
    refine e_iload rfl rfl ?_
    refine e_ifeq_t rfl rfl ?_
    exact Eg.ret rfl (by decide) rfl ⟨rfl, K1x, rfl, v1x, k1x⟩
theorem cs_factW (hT : TpAt sh R) (hA : RRAt sh R ru) (hU : RuAt sh R ru) : ∀ m : Nat, (∀ (I : Nat → Nat → Int32) (d : Nat) (F : Int32), d + m = 10 → Csw I B n E ru F → Ec X (2 * m + 3 + 1) 74 [.ref 7, .int (nI d)] (sh, I, L, R) (fun r h' => r = none ∧ ∃ J : Nat → Nat → Int32, h' = (sh, J, L, R) ∧ Csw J B n E ru F ∧ QFr I J ru)) := by
  intro m
  induction m with
  | zero =>
    intro I d F hd hw
    obtain ⟨h0x, p0x, -, -, r0x, -⟩ := id hw
    have h10x : (10 : Int32) ≤ nI d := (nI_lei (a := 10) (by decide) (by omega)).mpr (by omega)
    refine (?_ : Ec X 4 74 _ _ _)
    refine Ec.of (Nat.le_of_ble_eq_true rfl) ?_
    refine e_aload rfl rfl ?_
    refine e_getR rfl hA.1 hA.2.1 ?_
    refine Eg.p1 rfl (by decide) (by decide) rfl (Nat.le_of_ble_eq_true rfl) (xrcv_of rfl hT.1 rfl) ((cs_wordHere hT r0x).mono (by decide)) ?_
    refine e_ipush rfl ?_
    refine e_cne_b rfl (fun b9x => ?_) (fun b9x => ?_)
    · refine e_ipush rfl ?_
      refine e_istore rfl ?_
      refine e_aload rfl rfl ?_
      refine e_getR rfl hA.1 hA.2.1 ?_
      refine Eg.p1 rfl (by decide) (by decide) rfl (Nat.le_of_ble_eq_true rfl) (xrcv_of rfl hT.1 rfl) ((cs_signHere hT r0x).mono (by decide)) ?_
      refine e_ipush rfl ?_
      refine e_cne_b rfl (fun b27x => ?_) (fun b27x => ?_)
      · refine e_ipush rfl ?_
        refine e_istore rfl ?_
        refine e_iload rfl rfl ?_
        refine e_ifne_f rfl rfl ?_
        refine e_iload rfl rfl ?_
        refine e_ifeq_t rfl rfl ?_
        refine e_iload rfl rfl ?_
        refine e_ifeq_t rfl rfl ?_
        refine e_iload rfl rfl ?_
        refine e_ifeq_t rfl rfl ?_
        refine e_aload rfl rfl ?_
        refine Eg.c1 rfl (by decide) (by decide) rfl (Nat.le_of_ble_eq_true rfl) (xrcv_of rfl hA.1 rfl) ((cs_readSumW hT hA hU hw).mono (by decide)) (fun r1x h1x hq => ?_)
        obtain ⟨rfl, K1x, rfl, v1x, k1x⟩ := hq
        replace k1x := QFr.tr (QFr.rf) k1x
        obtain ⟨-, p1x, -, -, r1x, -⟩ := id v1x
        refine e_aload rfl rfl ?_
        refine Eg.c1 rfl (by decide) (by decide) rfl (Nat.le_of_ble_eq_true rfl) (xrcv_of rfl hA.1 rfl) ((cs_takeCmpW hT hA hU v1x).mono (by decide)) (fun r1x h1x hq => ?_)
        obtain ⟨⟨x0x, rfl⟩, K2x, rfl, v2x, k2x⟩ := hq
        replace k2x := QFr.tr (k1x) k2x
        obtain ⟨-, p2x, -, -, r2x, -⟩ := id v2x
        refine e_istore rfl ?_
        refine e_aload rfl rfl ?_
        refine Eg.c1 rfl (by decide) (by decide) rfl (Nat.le_of_ble_eq_true rfl) (xrcv_of rfl hA.1 rfl) ((cs_readSumW hT hA hU v2x).mono (by decide)) (fun r1x h1x hq => ?_)
        obtain ⟨rfl, K3x, rfl, v3x, k3x⟩ := hq
        replace k3x := QFr.tr (k2x) k3x
        obtain ⟨-, p3x, -, -, r3x, -⟩ := id v3x
        refine e_aload rfl rfl ?_
        refine e_getR rfl hA.1 hA.2.2.1 ?_
        refine e_iload rfl rfl ?_
        refine Eg.c2 rfl (by decide) (by decide) rfl (Nat.le_of_ble_eq_true rfl) (xrcv_of rfl hU.1 rfl) ((cs_raddW hA hU v3x).mono (by decide)) (fun r1x h1x hq => ?_)
        obtain ⟨rfl, K4x, rfl, v4x, k4x⟩ := hq
        replace k4x := QFr.tr (k3x) k4x
        obtain ⟨-, p4x, -, -, r4x, -⟩ := id v4x
        exact Eg.ret rfl (by decide) rfl ⟨rfl, K4x, rfl, v4x, k4x⟩
      · refine e_ipush rfl ?_
        refine e_goto rfl ?_
        refine e_istore rfl ?_
        refine e_iload rfl rfl ?_
        refine e_ifne_f rfl rfl ?_
        refine e_iload rfl rfl ?_
        refine e_ifeq_f rfl (by decide) ?_
        refine e_iload rfl rfl ?_
        refine e_ipush rfl ?_
        refine e_clt_f rfl (Int32.not_lt.mpr h10x) ?_
        refine e_aload rfl rfl ?_
        refine e_getR rfl hA.1 hA.2.1 ?_
        refine e_ipush rfl ?_
        refine Eg.c2 rfl (by decide) (by decide) rfl (Nat.le_of_ble_eq_true rfl) (xrcv_of rfl hT.1 rfl) ((cs_failW hT hA hU hw (k := 2)).mono (by decide)) (fun r1x h1x hq => ?_)
        obtain ⟨rfl, K1x, rfl, v1x, k1x⟩ := hq
        replace k1x := QFr.tr (QFr.rf) k1x
        obtain ⟨-, p1x, -, -, r1x, -⟩ := id v1x
        refine e_goto rfl ?_
        exact Eg.ret rfl (by decide) rfl ⟨rfl, K1x, rfl, v1x, k1x⟩
    · refine e_ipush rfl ?_
      refine e_goto rfl ?_
      refine e_istore rfl ?_
      refine e_aload rfl rfl ?_
      refine e_getR rfl hA.1 hA.2.1 ?_
      refine Eg.p1 rfl (by decide) (by decide) rfl (Nat.le_of_ble_eq_true rfl) (xrcv_of rfl hT.1 rfl) ((cs_signHere hT r0x).mono (by decide)) ?_
      refine e_ipush rfl ?_
      refine e_cne_b rfl (fun b27x => ?_) (fun b27x => ?_)
      · refine e_ipush rfl ?_
        refine e_istore rfl ?_
        refine e_iload rfl rfl ?_
        refine e_ifne_t rfl (by decide) ?_
        refine e_iload rfl rfl ?_
        refine e_ipush rfl ?_
        refine e_clt_f rfl (Int32.not_lt.mpr h10x) ?_
        refine e_aload rfl rfl ?_
        refine e_getR rfl hA.1 hA.2.1 ?_
        refine e_ipush rfl ?_
        refine Eg.c2 rfl (by decide) (by decide) rfl (Nat.le_of_ble_eq_true rfl) (xrcv_of rfl hT.1 rfl) ((cs_failW hT hA hU hw (k := 2)).mono (by decide)) (fun r1x h1x hq => ?_)
        obtain ⟨rfl, K1x, rfl, v1x, k1x⟩ := hq
        replace k1x := QFr.tr (QFr.rf) k1x
        obtain ⟨-, p1x, -, -, r1x, -⟩ := id v1x
        refine e_goto rfl ?_
        exact Eg.ret rfl (by decide) rfl ⟨rfl, K1x, rfl, v1x, k1x⟩
      · refine e_ipush rfl ?_
        refine e_goto rfl ?_
        refine e_istore rfl ?_
        refine e_iload rfl rfl ?_
        refine e_ifne_t rfl (by decide) ?_
        refine e_iload rfl rfl ?_
        refine e_ipush rfl ?_
        refine e_clt_f rfl (Int32.not_lt.mpr h10x) ?_
        refine e_aload rfl rfl ?_
        refine e_getR rfl hA.1 hA.2.1 ?_
        refine e_ipush rfl ?_
        refine Eg.c2 rfl (by decide) (by decide) rfl (Nat.le_of_ble_eq_true rfl) (xrcv_of rfl hT.1 rfl) ((cs_failW hT hA hU hw (k := 2)).mono (by decide)) (fun r1x h1x hq => ?_)
        obtain ⟨rfl, K1x, rfl, v1x, k1x⟩ := hq
        replace k1x := QFr.tr (QFr.rf) k1x
        obtain ⟨-, p1x, -, -, r1x, -⟩ := id v1x
        refine e_goto rfl ?_
        exact Eg.ret rfl (by decide) rfl ⟨rfl, K1x, rfl, v1x, k1x⟩
  | succ m ih =>
    intro I d F hd hw
    obtain ⟨h0x, p0x, -, -, r0x, -⟩ := id hw
    have h10x : nI d < 10 := (nI_lti (b := 10) (by omega) (by decide)).mpr (by omega)
    refine Ec.of (Nat.le_of_ble_eq_true rfl) ?_
    refine e_aload rfl rfl ?_
    refine e_getR rfl hA.1 hA.2.1 ?_
    refine Eg.p1 rfl (by decide) (by decide) rfl (Nat.le_of_ble_eq_true rfl) (xrcv_of rfl hT.1 rfl) (((cs_wordHere hT r0x).mono (by omega))) ?_
    refine e_ipush rfl ?_
    refine e_cne_b rfl (fun b9x => ?_) (fun b9x => ?_)
    · refine e_ipush rfl ?_
      refine e_istore rfl ?_
      refine e_aload rfl rfl ?_
      refine e_getR rfl hA.1 hA.2.1 ?_
      refine Eg.p1 rfl (by decide) (by decide) rfl (Nat.le_of_ble_eq_true rfl) (xrcv_of rfl hT.1 rfl) (((cs_signHere hT r0x).mono (by omega))) ?_
      refine e_ipush rfl ?_
      refine e_cne_b rfl (fun b27x => ?_) (fun b27x => ?_)
      · refine e_ipush rfl ?_
        refine e_istore rfl ?_
        refine e_iload rfl rfl ?_
        refine e_ifne_f rfl rfl ?_
        refine e_iload rfl rfl ?_
        refine e_ifeq_t rfl rfl ?_
        refine e_iload rfl rfl ?_
        refine e_ifeq_t rfl rfl ?_
        refine e_iload rfl rfl ?_
        refine e_ifeq_t rfl rfl ?_
        refine e_aload rfl rfl ?_
        refine Eg.c1 rfl (by decide) (by decide) rfl (Nat.le_of_ble_eq_true rfl) (xrcv_of rfl hA.1 rfl) (((cs_readSumW hT hA hU hw).mono (by omega))) (fun r1x h1x hq => ?_)
        obtain ⟨rfl, K1x, rfl, v1x, k1x⟩ := hq
        replace k1x := QFr.tr (QFr.rf) k1x
        obtain ⟨-, p1x, -, -, r1x, -⟩ := id v1x
        refine e_aload rfl rfl ?_
        refine Eg.c1 rfl (by decide) (by decide) rfl (Nat.le_of_ble_eq_true rfl) (xrcv_of rfl hA.1 rfl) (((cs_takeCmpW hT hA hU v1x).mono (by omega))) (fun r1x h1x hq => ?_)
        obtain ⟨⟨x0x, rfl⟩, K2x, rfl, v2x, k2x⟩ := hq
        replace k2x := QFr.tr (k1x) k2x
        obtain ⟨-, p2x, -, -, r2x, -⟩ := id v2x
        refine e_istore rfl ?_
        refine e_aload rfl rfl ?_
        refine Eg.c1 rfl (by decide) (by decide) rfl (Nat.le_of_ble_eq_true rfl) (xrcv_of rfl hA.1 rfl) (((cs_readSumW hT hA hU v2x).mono (by omega))) (fun r1x h1x hq => ?_)
        obtain ⟨rfl, K3x, rfl, v3x, k3x⟩ := hq
        replace k3x := QFr.tr (k2x) k3x
        obtain ⟨-, p3x, -, -, r3x, -⟩ := id v3x
        refine e_aload rfl rfl ?_
        refine e_getR rfl hA.1 hA.2.2.1 ?_
        refine e_iload rfl rfl ?_
        refine Eg.c2 rfl (by decide) (by decide) rfl (Nat.le_of_ble_eq_true rfl) (xrcv_of rfl hU.1 rfl) (((cs_raddW hA hU v3x).mono (by omega))) (fun r1x h1x hq => ?_)
        obtain ⟨rfl, K4x, rfl, v4x, k4x⟩ := hq
        replace k4x := QFr.tr (k3x) k4x
        obtain ⟨-, p4x, -, -, r4x, -⟩ := id v4x
        exact Eg.ret rfl (by decide) rfl ⟨rfl, K4x, rfl, v4x, k4x⟩
      · refine e_ipush rfl ?_
        refine e_goto rfl ?_
        refine e_istore rfl ?_
        refine e_iload rfl rfl ?_
        refine e_ifne_f rfl rfl ?_
        refine e_iload rfl rfl ?_
        refine e_ifeq_f rfl (by decide) ?_
        refine e_iload rfl rfl ?_
        refine e_ipush rfl ?_
        refine e_clt_t rfl h10x ?_
        refine e_iload rfl rfl ?_
        refine e_ifeq_t rfl rfl ?_
        refine e_iload rfl rfl ?_
        refine e_ifeq_f rfl (by decide) ?_
        refine e_aload rfl rfl ?_
        refine e_getR rfl hA.1 hA.2.1 ?_
        refine Eg.c1 rfl (by decide) (by decide) rfl (Nat.le_of_ble_eq_true rfl) (xrcv_of rfl hT.1 rfl) (((cs_stepW hT hA hU hw).mono (by omega))) (fun r1x h1x hq => ?_)
        obtain ⟨rfl, K1x, rfl, v1x, k1x⟩ := hq
        replace k1x := QFr.tr (QFr.rf) k1x
        obtain ⟨-, p1x, -, -, r1x, -⟩ := id v1x
        refine e_aload rfl rfl ?_
        refine e_iload rfl rfl ?_
        refine e_ipush rfl ?_
        refine e_iadd rfl ?_
        rw [show (nI d) + 1 = nI (d + 1) from nI_1 _]
        refine Eg.c2 rfl (by decide) (by decide) rfl (Nat.le_of_ble_eq_true rfl) (xrcv_of rfl hA.1 rfl) (((cs_testW hT hA hU ih _ (d + 1) F (by omega) v1x).mono (by omega))) (fun r1x h1x hq => ?_)
        obtain ⟨rfl, K2x, rfl, v2x, k2x⟩ := hq
        replace k2x := QFr.tr (k1x) k2x
        obtain ⟨-, p2x, -, -, r2x, -⟩ := id v2x
        refine e_aload rfl rfl ?_
        refine e_getR rfl hA.1 hA.2.1 ?_
        refine e_ipush rfl ?_
        refine Eg.c2 rfl (by decide) (by decide) rfl (Nat.le_of_ble_eq_true rfl) (xrcv_of rfl hT.1 rfl) (((cs_takeSignW hT hA hU v2x).mono (by omega))) (fun r1x h1x hq => ?_)
        obtain ⟨rfl, K3x, rfl, v3x, k3x⟩ := hq
        replace k3x := QFr.tr (k2x) k3x
        obtain ⟨-, p3x, -, -, r3x, -⟩ := id v3x
        refine e_goto rfl ?_
        exact Eg.ret rfl (by decide) rfl ⟨rfl, K3x, rfl, v3x, k3x⟩
    · refine e_ipush rfl ?_
      refine e_goto rfl ?_
      refine e_istore rfl ?_
      refine e_aload rfl rfl ?_
      refine e_getR rfl hA.1 hA.2.1 ?_
      refine Eg.p1 rfl (by decide) (by decide) rfl (Nat.le_of_ble_eq_true rfl) (xrcv_of rfl hT.1 rfl) (((cs_signHere hT r0x).mono (by omega))) ?_
      refine e_ipush rfl ?_
      refine e_cne_b rfl (fun b27x => ?_) (fun b27x => ?_)
      · refine e_ipush rfl ?_
        refine e_istore rfl ?_
        refine e_iload rfl rfl ?_
        refine e_ifne_t rfl (by decide) ?_
        refine e_iload rfl rfl ?_
        refine e_ipush rfl ?_
        refine e_clt_t rfl h10x ?_
        refine e_iload rfl rfl ?_
        refine e_ifeq_f rfl (by decide) ?_
        refine e_aload rfl rfl ?_
        refine e_getR rfl hA.1 hA.2.1 ?_
        refine Eg.c1 rfl (by decide) (by decide) rfl (Nat.le_of_ble_eq_true rfl) (xrcv_of rfl hT.1 rfl) (((cs_stepW hT hA hU hw).mono (by omega))) (fun r1x h1x hq => ?_)
        obtain ⟨rfl, K1x, rfl, v1x, k1x⟩ := hq
        replace k1x := QFr.tr (QFr.rf) k1x
        obtain ⟨-, p1x, -, -, r1x, -⟩ := id v1x
        refine e_aload rfl rfl ?_
        refine e_iload rfl rfl ?_
        refine e_ipush rfl ?_
        refine e_iadd rfl ?_
        rw [show (nI d) + 1 = nI (d + 1) from nI_1 _]
        refine Eg.c2 rfl (by decide) (by decide) rfl (Nat.le_of_ble_eq_true rfl) (xrcv_of rfl hA.1 rfl) (((ih _ (d + 1) F (by omega) v1x).mono (by omega))) (fun r1x h1x hq => ?_)
        obtain ⟨rfl, K2x, rfl, v2x, k2x⟩ := hq
        replace k2x := QFr.tr (k1x) k2x
        obtain ⟨-, p2x, -, -, r2x, -⟩ := id v2x
        refine e_aload rfl rfl ?_
        refine e_getR rfl hA.1 hA.2.2.1 ?_
        refine e_ipush rfl ?_
        refine Eg.c2 rfl (by decide) (by decide) rfl (Nat.le_of_ble_eq_true rfl) (xrcv_of rfl hU.1 rfl) (((cs_raddW hA hU v2x).mono (by omega))) (fun r1x h1x hq => ?_)
        obtain ⟨rfl, K3x, rfl, v3x, k3x⟩ := hq
        replace k3x := QFr.tr (k2x) k3x
        obtain ⟨-, p3x, -, -, r3x, -⟩ := id v3x
        refine e_goto rfl ?_
        exact Eg.ret rfl (by decide) rfl ⟨rfl, K3x, rfl, v3x, k3x⟩
      · refine e_ipush rfl ?_
        refine e_goto rfl ?_
        refine e_istore rfl ?_
        refine e_iload rfl rfl ?_
        refine e_ifne_t rfl (by decide) ?_
        refine e_iload rfl rfl ?_
        refine e_ipush rfl ?_
        refine e_clt_t rfl h10x ?_
        refine e_iload rfl rfl ?_
        refine e_ifeq_f rfl (by decide) ?_
        refine e_aload rfl rfl ?_
        refine e_getR rfl hA.1 hA.2.1 ?_
        refine Eg.c1 rfl (by decide) (by decide) rfl (Nat.le_of_ble_eq_true rfl) (xrcv_of rfl hT.1 rfl) (((cs_stepW hT hA hU hw).mono (by omega))) (fun r1x h1x hq => ?_)
        obtain ⟨rfl, K1x, rfl, v1x, k1x⟩ := hq
        replace k1x := QFr.tr (QFr.rf) k1x
        obtain ⟨-, p1x, -, -, r1x, -⟩ := id v1x
        refine e_aload rfl rfl ?_
        refine e_iload rfl rfl ?_
        refine e_ipush rfl ?_
        refine e_iadd rfl ?_
        rw [show (nI d) + 1 = nI (d + 1) from nI_1 _]
        refine Eg.c2 rfl (by decide) (by decide) rfl (Nat.le_of_ble_eq_true rfl) (xrcv_of rfl hA.1 rfl) (((ih _ (d + 1) F (by omega) v1x).mono (by omega))) (fun r1x h1x hq => ?_)
        obtain ⟨rfl, K2x, rfl, v2x, k2x⟩ := hq
        replace k2x := QFr.tr (k1x) k2x
        obtain ⟨-, p2x, -, -, r2x, -⟩ := id v2x
        refine e_aload rfl rfl ?_
        refine e_getR rfl hA.1 hA.2.2.1 ?_
        refine e_ipush rfl ?_
        refine Eg.c2 rfl (by decide) (by decide) rfl (Nat.le_of_ble_eq_true rfl) (xrcv_of rfl hU.1 rfl) (((cs_raddW hA hU v2x).mono (by omega))) (fun r1x h1x hq => ?_)
        obtain ⟨rfl, K3x, rfl, v3x, k3x⟩ := hq
        replace k3x := QFr.tr (k2x) k3x
        obtain ⟨-, p3x, -, -, r3x, -⟩ := id v3x
        refine e_goto rfl ?_
        exact Eg.ret rfl (by decide) rfl ⟨rfl, K3x, rfl, v3x, k3x⟩
end CR4x
