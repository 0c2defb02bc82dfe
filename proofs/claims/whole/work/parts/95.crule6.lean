/-! A RULE read, the one side: facts, without a fault -/
section CR6x
variable {X : xX} {h : xH} {sh : List (Nat × Nat)} {I : Nat → Nat → Int32} {L : Nat → Nat → Int64} {R : Nat → Nat → Option Nat} {B : Nat → Nat} {n E ru : Nat} {st : rS}
theorem cs_readFact (hT : TpAt sh R) (hA : RRAt sh R ru) (hU : RuAt sh R ru) : ∀ m : Nat, (∀ (I : Nat → Nat → Int32) (d : Nat) (st : rS), d + m = 10 → Cst I B n E ru st → Ec X (2 * m + 3 + 1) 74 [.ref 7, .int (nI d)] (sh, I, L, R) (fun r h' => r = none ∧ ∃ J : Nat → Nat → Int32, h' = (sh, J, L, R) ∧ rRes I J B n E ru (rFact B n m st))) := by
  have h9x := hA.2.2.2
  intro m
  induction m with
  | zero =>
    intro I d st hd hr
    obtain ⟨hp, hn⟩ := hr.le
    have hbd := hr.2.2.2.2.1
    have h10x : (10 : Int32) ≤ nI d := (nI_lei (a := 10) (by decide) (by omega)).mpr (by omega)
    refine Ec.of (Nat.le_of_ble_eq_true rfl) ?_
    refine e_aload rfl rfl ?_
    refine e_getR rfl hA.1 hA.2.1 ?_
    refine Eg.p1 rfl (by decide) (by decide) rfl (Nat.le_of_ble_eq_true rfl) (xrcv_of rfl hT.1 rfl) (((cs_wordHere hT hr.1).mono (by omega))) ?_
    refine e_ipush rfl ?_
    refine e_cne_b rfl (fun b9x => ?_) (fun b9x => ?_)
    · refine e_ipush rfl ?_
      refine e_istore rfl ?_
      refine e_aload rfl rfl ?_
      refine e_getR rfl hA.1 hA.2.1 ?_
      refine Eg.p1 rfl (by decide) (by decide) rfl (Nat.le_of_ble_eq_true rfl) (xrcv_of rfl hT.1 rfl) (((cs_signHere hT hr.1).mono (by omega))) ?_
      refine e_ipush rfl ?_
      refine e_cne_b rfl (fun b27x => ?_) (fun b27x => ?_)
      · refine e_ipush rfl ?_
        refine e_istore rfl ?_
        refine e_iload rfl rfl ?_
        refine e_ifne_f rfl rfl ?_
        refine e_iload rfl rfl ?_
        refine e_ifeq_t rfl rfl ?_
        refine e_iload rfl rfl ?_
        refine e_ifeq_t rfl rfl ?_
        refine e_iload rfl rfl ?_
        refine e_ifeq_t rfl rfl ?_
        refine e_aload rfl rfl ?_
        refine Eg.c1 rfl (by decide) (by decide) rfl (Nat.le_of_ble_eq_true rfl) (xrcv_of rfl hA.1 rfl) (((cs_readSum hT hA hU hr).mono (by omega))) (fun r1x h1x hq => ?_)
        obtain ⟨rfl, K1x, rfl, q1x, hc⟩ := hq
        rcases hc with ⟨e1x, c1x⟩ | v1x
        · have q1' := QFr.tr (QFr.rf) q1x
          have gA := rSum_G hn hr.1.tok e1x
          refine e_aload rfl rfl ?_
          refine Eg.c1 rfl (by decide) (by decide) rfl (Nat.le_of_ble_eq_true rfl) (xrcv_of rfl hA.1 rfl) (((cs_takeCmp hT hA hU c1x).mono (by omega))) (fun r1x h1x hq => ?_)
          obtain ⟨rfl, K2x, rfl, q2x, hc⟩ := hq
          rcases hc with ⟨e2x, c2x⟩ | v2x
          · have q2' := QFr.tr (q1') q2x
            obtain ⟨gB, nz⟩ := rCs_G (x := [false]) hn (gA.tk hr.1.tok) e2x
            refine e_istore rfl ?_
            refine e_aload rfl rfl ?_
            refine Eg.c1 rfl (by decide) (by decide) rfl (Nat.le_of_ble_eq_true rfl) (xrcv_of rfl hA.1 rfl) (((cs_readSum hT hA hU c2x).mono (by omega))) (fun r1x h1x hq => ?_)
            obtain ⟨rfl, K3x, rfl, q3x, hc⟩ := hq
            rcases hc with ⟨e3x, c3x⟩ | v3x
            · have q3' := QFr.tr (q2') q3x
              have gC := rSum_G hn (gB.tk (gA.tk hr.1.tok)) e3x
              have hb3x : 2 * ((rSum B n (rCs B n (rSum B n st).2).2).2.2.2.length + 1) ≤ 2 * (rSum B n (rCs B n (rSum B n st).2).2).2.2.1 + (rSum B n (rCs B n (rSum B n st).2).2).2.1 := (((gA.tr gB).tr (gC.ext [false])).b2 (j := 1) (by decide) hbd)
              refine e_aload rfl rfl ?_
              refine e_getR rfl hA.1 hA.2.2.1 ?_
              refine e_iload rfl rfl ?_
              refine Eg.c2 rfl (by decide) (by decide) rfl (Nat.le_of_ble_eq_true rfl) (xrcv_of rfl hU.1 rfl) (((cs_raddA (j := cmS B n (rSum B n st).2.1) hA hU c3x hb3x (cmS_pc nz)).mono (by omega))) (fun r1x h1x hq => ?_)
              obtain ⟨rfl, K4x, rfl, c4x, q4x⟩ := hq
              have q4' := QFr.tr (q3') q4x
              have eD : rFact B n 0 st = rCmp B n st := by rw [rFact, if_neg (fun q => q.elim b9x b27x)]
              have eF : rFact B n 0 st = (0, (adE (cmS B n (rSum B n st).2.1) (rSum B n (rCs B n (rSum B n st).2).2).2)) := by rw [eD]; unfold rCmp; rw [if_neg (fun q => q e1x), if_neg (fun q => q e2x), if_neg (fun q => q e3x)]
              exact Eg.ret rfl (by decide) rfl ⟨rfl, K4x, rfl, by rw [eF]; exact ⟨q4', Or.inl ⟨rfl, c4x⟩⟩⟩
            · obtain ⟨z3x, p3x, -, -, r3x, -⟩ := id v3x
              have q3' := QFr.tr (q2') q3x
              refine e_aload rfl rfl ?_
              refine e_getR rfl hA.1 hA.2.2.1 ?_
              refine e_iload rfl rfl ?_
              refine Eg.c2 rfl (by decide) (by decide) rfl (Nat.le_of_ble_eq_true rfl) (xrcv_of rfl hU.1 rfl) (((cs_raddW hA hU v3x).mono (by omega))) (fun r1x h1x hq => ?_)
              obtain ⟨rfl, K4x, rfl, v4x, k4x⟩ := hq
              replace k4x := QFr.tr (q3') k4x
              obtain ⟨-, p4x, -, -, r4x, -⟩ := id v4x
              have eD : rFact B n 0 st = rCmp B n st := by rw [rFact, if_neg (fun q => q.elim b9x b27x)]
              have eF : (rFact B n 0 st).1 = (rSum B n (rCs B n (rSum B n st).2).2).1 := by rw [eD]; unfold rCmp; rw [if_neg (fun q => q e1x), if_neg (fun q => q e2x), if_pos z3x]
              exact Eg.ret rfl (by decide) rfl ⟨rfl, K4x, rfl, rRes.wk k4x (by rw [eF]; exact v4x)⟩
          · obtain ⟨z2x, p2x, -, -, r2x, -⟩ := id v2x
            have q2' := QFr.tr (q1') q2x
            refine e_istore rfl ?_
            refine e_aload rfl rfl ?_
            refine Eg.c1 rfl (by decide) (by decide) rfl (Nat.le_of_ble_eq_true rfl) (xrcv_of rfl hA.1 rfl) (((cs_readSumW hT hA hU v2x).mono (by omega))) (fun r1x h1x hq => ?_)
            obtain ⟨rfl, K3x, rfl, v3x, k3x⟩ := hq
            replace k3x := QFr.tr (q2') k3x
            obtain ⟨-, p3x, -, -, r3x, -⟩ := id v3x
            refine e_aload rfl rfl ?_
            refine e_getR rfl hA.1 hA.2.2.1 ?_
            refine e_iload rfl rfl ?_
            refine Eg.c2 rfl (by decide) (by decide) rfl (Nat.le_of_ble_eq_true rfl) (xrcv_of rfl hU.1 rfl) (((cs_raddW hA hU v3x).mono (by omega))) (fun r1x h1x hq => ?_)
            obtain ⟨rfl, K4x, rfl, v4x, k4x⟩ := hq
            replace k4x := QFr.tr (k3x) k4x
            obtain ⟨-, p4x, -, -, r4x, -⟩ := id v4x
            have eD : rFact B n 0 st = rCmp B n st := by rw [rFact, if_neg (fun q => q.elim b9x b27x)]
            have eF : (rFact B n 0 st).1 = (rCs B n (rSum B n st).2).1 := by rw [eD]; unfold rCmp; rw [if_neg (fun q => q e1x), if_pos z2x]
            exact Eg.ret rfl (by decide) rfl ⟨rfl, K4x, rfl, rRes.wk k4x (by rw [eF]; exact v4x)⟩
        · obtain ⟨z1x, p1x, -, -, r1x, -⟩ := id v1x
          have q1' := QFr.tr (QFr.rf) q1x
          refine e_aload rfl rfl ?_
          refine Eg.c1 rfl (by decide) (by decide) rfl (Nat.le_of_ble_eq_true rfl) (xrcv_of rfl hA.1 rfl) (((cs_takeCmpW hT hA hU v1x).mono (by omega))) (fun r1x h1x hq => ?_)
          obtain ⟨⟨x0x, rfl⟩, K2x, rfl, v2x, k2x⟩ := hq
          replace k2x := QFr.tr (q1') k2x
          obtain ⟨-, p2x, -, -, r2x, -⟩ := id v2x
          refine e_istore rfl ?_
          refine e_aload rfl rfl ?_
          refine Eg.c1 rfl (by decide) (by decide) rfl (Nat.le_of_ble_eq_true rfl) (xrcv_of rfl hA.1 rfl) (((cs_readSumW hT hA hU v2x).mono (by omega))) (fun r1x h1x hq => ?_)
          obtain ⟨rfl, K3x, rfl, v3x, k3x⟩ := hq
          replace k3x := QFr.tr (k2x) k3x
          obtain ⟨-, p3x, -, -, r3x, -⟩ := id v3x
          refine e_aload rfl rfl ?_
          refine e_getR rfl hA.1 hA.2.2.1 ?_
          refine e_iload rfl rfl ?_
          refine Eg.c2 rfl (by decide) (by decide) rfl (Nat.le_of_ble_eq_true rfl) (xrcv_of rfl hU.1 rfl) (((cs_raddW hA hU v3x).mono (by omega))) (fun r1x h1x hq => ?_)
          obtain ⟨rfl, K4x, rfl, v4x, k4x⟩ := hq
          replace k4x := QFr.tr (k3x) k4x
          obtain ⟨-, p4x, -, -, r4x, -⟩ := id v4x
          have eD : rFact B n 0 st = rCmp B n st := by rw [rFact, if_neg (fun q => q.elim b9x b27x)]
          have eF : (rFact B n 0 st).1 = (rSum B n st).1 := by rw [eD]; unfold rCmp; rw [if_pos z1x]
          exact Eg.ret rfl (by decide) rfl ⟨rfl, K4x, rfl, rRes.wk k4x (by rw [eF]; exact v4x)⟩
      · refine e_ipush rfl ?_
        refine e_goto rfl ?_
        refine e_istore rfl ?_
        refine e_iload rfl rfl ?_
        refine e_ifne_f rfl rfl ?_
        refine e_iload rfl rfl ?_
        refine e_ifeq_f rfl (by decide) ?_
        refine e_iload rfl rfl ?_
        refine e_ipush rfl ?_
        refine e_clt_f rfl (Int32.not_lt.mpr h10x) ?_
        refine e_aload rfl rfl ?_
        refine e_getR rfl hA.1 hA.2.1 ?_
        refine e_ipush rfl ?_
        refine Eg.c2 rfl (by decide) (by decide) rfl (Nat.le_of_ble_eq_true rfl) (xrcv_of rfl hT.1 rfl) (((cs_fail hT hr.1 (k := 2)).mono (by omega))) (fun r1x h1x hq => ?_)
        obtain ⟨rfl, J, rfl, a1x, a2x⟩ := hq
        refine e_goto rfl ?_
        have eD : rFact B n 0 st = (fl 0 st.1 2, st) := by rw [rFact, if_pos (Or.inr b27x)]
        exact Eg.ret rfl (by decide) rfl ⟨rfl, J, rfl, by rw [eD]; exact ⟨QFr.of a2x, Or.inr (hr.wk h9x (fl_ne (by omega)) a1x a2x)⟩⟩
    · refine e_ipush rfl ?_
      refine e_goto rfl ?_
      refine e_istore rfl ?_
      refine e_aload rfl rfl ?_
      refine e_getR rfl hA.1 hA.2.1 ?_
      refine Eg.p1 rfl (by decide) (by decide) rfl (Nat.le_of_ble_eq_true rfl) (xrcv_of rfl hT.1 rfl) (((cs_signHere hT hr.1).mono (by omega))) ?_
      refine e_ipush rfl ?_
      refine e_cne_b rfl (fun b27x => ?_) (fun b27x => ?_)
      · refine e_ipush rfl ?_
        refine e_istore rfl ?_
        refine e_iload rfl rfl ?_
        refine e_ifne_t rfl (by decide) ?_
        refine e_iload rfl rfl ?_
        refine e_ipush rfl ?_
        refine e_clt_f rfl (Int32.not_lt.mpr h10x) ?_
        refine e_aload rfl rfl ?_
        refine e_getR rfl hA.1 hA.2.1 ?_
        refine e_ipush rfl ?_
        refine Eg.c2 rfl (by decide) (by decide) rfl (Nat.le_of_ble_eq_true rfl) (xrcv_of rfl hT.1 rfl) (((cs_fail hT hr.1 (k := 2)).mono (by omega))) (fun r1x h1x hq => ?_)
        obtain ⟨rfl, J, rfl, a1x, a2x⟩ := hq
        refine e_goto rfl ?_
        have eD : rFact B n 0 st = (fl 0 st.1 2, st) := by rw [rFact, if_pos (Or.inl b9x)]
        exact Eg.ret rfl (by decide) rfl ⟨rfl, J, rfl, by rw [eD]; exact ⟨QFr.of a2x, Or.inr (hr.wk h9x (fl_ne (by omega)) a1x a2x)⟩⟩
      · refine e_ipush rfl ?_
        refine e_goto rfl ?_
        refine e_istore rfl ?_
        refine e_iload rfl rfl ?_
        refine e_ifne_t rfl (by decide) ?_
        refine e_iload rfl rfl ?_
        refine e_ipush rfl ?_
        refine e_clt_f rfl (Int32.not_lt.mpr h10x) ?_
        refine e_aload rfl rfl ?_
        refine e_getR rfl hA.1 hA.2.1 ?_
        refine e_ipush rfl ?_
        refine Eg.c2 rfl (by decide) (by decide) rfl (Nat.le_of_ble_eq_true rfl) (xrcv_of rfl hT.1 rfl) (((cs_fail hT hr.1 (k := 2)).mono (by omega))) (fun r1x h1x hq => ?_)
        obtain ⟨rfl, J, rfl, a1x, a2x⟩ := hq
        refine e_goto rfl ?_
        have eD : rFact B n 0 st = (fl 0 st.1 2, st) := by rw [rFact, if_pos (Or.inl b9x)]
        exact Eg.ret rfl (by decide) rfl ⟨rfl, J, rfl, by rw [eD]; exact ⟨QFr.of a2x, Or.inr (hr.wk h9x (fl_ne (by omega)) a1x a2x)⟩⟩
  | succ m ih =>
    intro I d st hd hr
    obtain ⟨hp, hn⟩ := hr.le
    have hbd := hr.2.2.2.2.1
    have h10x : nI d < 10 := (nI_lti (b := 10) (by omega) (by decide)).mpr (by omega)
    refine Ec.of (Nat.le_of_ble_eq_true rfl) ?_
    refine e_aload rfl rfl ?_
    refine e_getR rfl hA.1 hA.2.1 ?_
    refine Eg.p1 rfl (by decide) (by decide) rfl (Nat.le_of_ble_eq_true rfl) (xrcv_of rfl hT.1 rfl) (((cs_wordHere hT hr.1).mono (by omega))) ?_
    refine e_ipush rfl ?_
    refine e_cne_b rfl (fun b9x => ?_) (fun b9x => ?_)
    · refine e_ipush rfl ?_
      refine e_istore rfl ?_
      refine e_aload rfl rfl ?_
      refine e_getR rfl hA.1 hA.2.1 ?_
      refine Eg.p1 rfl (by decide) (by decide) rfl (Nat.le_of_ble_eq_true rfl) (xrcv_of rfl hT.1 rfl) (((cs_signHere hT hr.1).mono (by omega))) ?_
      refine e_ipush rfl ?_
      refine e_cne_b rfl (fun b27x => ?_) (fun b27x => ?_)
      · refine e_ipush rfl ?_
        refine e_istore rfl ?_
        refine e_iload rfl rfl ?_
        refine e_ifne_f rfl rfl ?_
        refine e_iload rfl rfl ?_
        refine e_ifeq_t rfl rfl ?_
        refine e_iload rfl rfl ?_
        refine e_ifeq_t rfl rfl ?_
        refine e_iload rfl rfl ?_
        refine e_ifeq_t rfl rfl ?_
        refine e_aload rfl rfl ?_
        refine Eg.c1 rfl (by decide) (by decide) rfl (Nat.le_of_ble_eq_true rfl) (xrcv_of rfl hA.1 rfl) (((cs_readSum hT hA hU hr).mono (by omega))) (fun r1x h1x hq => ?_)
        obtain ⟨rfl, K1x, rfl, q1x, hc⟩ := hq
        rcases hc with ⟨e1x, c1x⟩ | v1x
        · have q1' := QFr.tr (QFr.rf) q1x
          have gA := rSum_G hn hr.1.tok e1x
          refine e_aload rfl rfl ?_
          refine Eg.c1 rfl (by decide) (by decide) rfl (Nat.le_of_ble_eq_true rfl) (xrcv_of rfl hA.1 rfl) (((cs_takeCmp hT hA hU c1x).mono (by omega))) (fun r1x h1x hq => ?_)
          obtain ⟨rfl, K2x, rfl, q2x, hc⟩ := hq
          rcases hc with ⟨e2x, c2x⟩ | v2x
          · have q2' := QFr.tr (q1') q2x
            obtain ⟨gB, nz⟩ := rCs_G (x := [false]) hn (gA.tk hr.1.tok) e2x
            refine e_istore rfl ?_
            refine e_aload rfl rfl ?_
            refine Eg.c1 rfl (by decide) (by decide) rfl (Nat.le_of_ble_eq_true rfl) (xrcv_of rfl hA.1 rfl) (((cs_readSum hT hA hU c2x).mono (by omega))) (fun r1x h1x hq => ?_)
            obtain ⟨rfl, K3x, rfl, q3x, hc⟩ := hq
            rcases hc with ⟨e3x, c3x⟩ | v3x
            · have q3' := QFr.tr (q2') q3x
              have gC := rSum_G hn (gB.tk (gA.tk hr.1.tok)) e3x
              have hb3x : 2 * ((rSum B n (rCs B n (rSum B n st).2).2).2.2.2.length + 1) ≤ 2 * (rSum B n (rCs B n (rSum B n st).2).2).2.2.1 + (rSum B n (rCs B n (rSum B n st).2).2).2.1 := (((gA.tr gB).tr (gC.ext [false])).b2 (j := 1) (by decide) hbd)
              refine e_aload rfl rfl ?_
              refine e_getR rfl hA.1 hA.2.2.1 ?_
              refine e_iload rfl rfl ?_
              refine Eg.c2 rfl (by decide) (by decide) rfl (Nat.le_of_ble_eq_true rfl) (xrcv_of rfl hU.1 rfl) (((cs_raddA (j := cmS B n (rSum B n st).2.1) hA hU c3x hb3x (cmS_pc nz)).mono (by omega))) (fun r1x h1x hq => ?_)
              obtain ⟨rfl, K4x, rfl, c4x, q4x⟩ := hq
              have q4' := QFr.tr (q3') q4x
              have eD : rFact B n (m + 1) st = rCmp B n st := by rw [rFact, if_neg b9x, if_neg b27x]
              have eF : rFact B n (m + 1) st = (0, (adE (cmS B n (rSum B n st).2.1) (rSum B n (rCs B n (rSum B n st).2).2).2)) := by rw [eD]; unfold rCmp; rw [if_neg (fun q => q e1x), if_neg (fun q => q e2x), if_neg (fun q => q e3x)]
              exact Eg.ret rfl (by decide) rfl ⟨rfl, K4x, rfl, by rw [eF]; exact ⟨q4', Or.inl ⟨rfl, c4x⟩⟩⟩
            · obtain ⟨z3x, p3x, -, -, r3x, -⟩ := id v3x
              have q3' := QFr.tr (q2') q3x
              refine e_aload rfl rfl ?_
              refine e_getR rfl hA.1 hA.2.2.1 ?_
              refine e_iload rfl rfl ?_
              refine Eg.c2 rfl (by decide) (by decide) rfl (Nat.le_of_ble_eq_true rfl) (xrcv_of rfl hU.1 rfl) (((cs_raddW hA hU v3x).mono (by omega))) (fun r1x h1x hq => ?_)
              obtain ⟨rfl, K4x, rfl, v4x, k4x⟩ := hq
              replace k4x := QFr.tr (q3') k4x
              obtain ⟨-, p4x, -, -, r4x, -⟩ := id v4x
              have eD : rFact B n (m + 1) st = rCmp B n st := by rw [rFact, if_neg b9x, if_neg b27x]
              have eF : (rFact B n (m + 1) st).1 = (rSum B n (rCs B n (rSum B n st).2).2).1 := by rw [eD]; unfold rCmp; rw [if_neg (fun q => q e1x), if_neg (fun q => q e2x), if_pos z3x]
              exact Eg.ret rfl (by decide) rfl ⟨rfl, K4x, rfl, rRes.wk k4x (by rw [eF]; exact v4x)⟩
          · obtain ⟨z2x, p2x, -, -, r2x, -⟩ := id v2x
            have q2' := QFr.tr (q1') q2x
            refine e_istore rfl ?_
            refine e_aload rfl rfl ?_
            refine Eg.c1 rfl (by decide) (by decide) rfl (Nat.le_of_ble_eq_true rfl) (xrcv_of rfl hA.1 rfl) (((cs_readSumW hT hA hU v2x).mono (by omega))) (fun r1x h1x hq => ?_)
            obtain ⟨rfl, K3x, rfl, v3x, k3x⟩ := hq
            replace k3x := QFr.tr (q2') k3x
            obtain ⟨-, p3x, -, -, r3x, -⟩ := id v3x
            refine e_aload rfl rfl ?_
            refine e_getR rfl hA.1 hA.2.2.1 ?_
            refine e_iload rfl rfl ?_
            refine Eg.c2 rfl (by decide) (by decide) rfl (Nat.le_of_ble_eq_true rfl) (xrcv_of rfl hU.1 rfl) (((cs_raddW hA hU v3x).mono (by omega))) (fun r1x h1x hq => ?_)
            obtain ⟨rfl, K4x, rfl, v4x, k4x⟩ := hq
            replace k4x := QFr.tr (k3x) k4x
            obtain ⟨-, p4x, -, -, r4x, -⟩ := id v4x
            have eD : rFact B n (m + 1) st = rCmp B n st := by rw [rFact, if_neg b9x, if_neg b27x]
            have eF : (rFact B n (m + 1) st).1 = (rCs B n (rSum B n st).2).1 := by rw [eD]; unfold rCmp; rw [if_neg (fun q => q e1x), if_pos z2x]
            exact Eg.ret rfl (by decide) rfl ⟨rfl, K4x, rfl, rRes.wk k4x (by rw [eF]; exact v4x)⟩
        · obtain ⟨z1x, p1x, -, -, r1x, -⟩ := id v1x
          have q1' := QFr.tr (QFr.rf) q1x
          refine e_aload rfl rfl ?_
          refine Eg.c1 rfl (by decide) (by decide) rfl (Nat.le_of_ble_eq_true rfl) (xrcv_of rfl hA.1 rfl) (((cs_takeCmpW hT hA hU v1x).mono (by omega))) (fun r1x h1x hq => ?_)
          obtain ⟨⟨x0x, rfl⟩, K2x, rfl, v2x, k2x⟩ := hq
          replace k2x := QFr.tr (q1') k2x
          obtain ⟨-, p2x, -, -, r2x, -⟩ := id v2x
          refine e_istore rfl ?_
          refine e_aload rfl rfl ?_
          refine Eg.c1 rfl (by decide) (by decide) rfl (Nat.le_of_ble_eq_true rfl) (xrcv_of rfl hA.1 rfl) (((cs_readSumW hT hA hU v2x).mono (by omega))) (fun r1x h1x hq => ?_)
          obtain ⟨rfl, K3x, rfl, v3x, k3x⟩ := hq
          replace k3x := QFr.tr (k2x) k3x
          obtain ⟨-, p3x, -, -, r3x, -⟩ := id v3x
          refine e_aload rfl rfl ?_
          refine e_getR rfl hA.1 hA.2.2.1 ?_
          refine e_iload rfl rfl ?_
          refine Eg.c2 rfl (by decide) (by decide) rfl (Nat.le_of_ble_eq_true rfl) (xrcv_of rfl hU.1 rfl) (((cs_raddW hA hU v3x).mono (by omega))) (fun r1x h1x hq => ?_)
          obtain ⟨rfl, K4x, rfl, v4x, k4x⟩ := hq
          replace k4x := QFr.tr (k3x) k4x
          obtain ⟨-, p4x, -, -, r4x, -⟩ := id v4x
          have eD : rFact B n (m + 1) st = rCmp B n st := by rw [rFact, if_neg b9x, if_neg b27x]
          have eF : (rFact B n (m + 1) st).1 = (rSum B n st).1 := by rw [eD]; unfold rCmp; rw [if_pos z1x]
          exact Eg.ret rfl (by decide) rfl ⟨rfl, K4x, rfl, rRes.wk k4x (by rw [eF]; exact v4x)⟩
      · refine e_ipush rfl ?_
        refine e_goto rfl ?_
        refine e_istore rfl ?_
        refine e_iload rfl rfl ?_
        refine e_ifne_f rfl rfl ?_
        refine e_iload rfl rfl ?_
        refine e_ifeq_f rfl (by decide) ?_
        refine e_iload rfl rfl ?_
        refine e_ipush rfl ?_
        refine e_clt_t rfl h10x ?_
        refine e_iload rfl rfl ?_
        refine e_ifeq_t rfl rfl ?_
        refine e_iload rfl rfl ?_
        refine e_ifeq_f rfl (by decide) ?_
        refine e_aload rfl rfl ?_
        refine e_getR rfl hA.1 hA.2.1 ?_
        refine Eg.c1 rfl (by decide) (by decide) rfl (Nat.le_of_ble_eq_true rfl) (xrcv_of rfl hT.1 rfl) (((cs_step hT hr.1).mono (by omega))) (fun r1x h1x hq => ?_)
        obtain ⟨rfl, K1x, rfl, g1x, g2x⟩ := hq
        have c1x : Cst K1x B n E ru (goN B n st) := hr.go h9x g1x g2x
        refine e_aload rfl rfl ?_
        refine e_iload rfl rfl ?_
        refine e_ipush rfl ?_
        refine e_iadd rfl ?_
        rw [show (nI d) + 1 = nI (d + 1) from nI_1 _]
        refine Eg.c2 rfl (by decide) (by decide) rfl (Nat.le_of_ble_eq_true rfl) (xrcv_of rfl hA.1 rfl) (((cs_readTest hT hA hU ih _ (d + 1) (goN B n st) (by omega) c1x).mono (by omega))) (fun r1x h1x hq => ?_)
        obtain ⟨rfl, K2x, rfl, q2x, hc⟩ := hq
        rcases hc with ⟨e2x, c2x⟩ | v2x
        · have q2' := QFr.tr ((QFr.of g2x)) q2x
          refine e_aload rfl rfl ?_
          refine e_getR rfl hA.1 hA.2.1 ?_
          refine e_ipush rfl ?_
          refine Eg.c2 rfl (by decide) (by decide) rfl (Nat.le_of_ble_eq_true rfl) (xrcv_of rfl hT.1 rfl) (((cs_takeSign hT c2x.1).mono (by omega))) (fun r1x h1x hq => ?_)
          obtain ⟨rfl, J, rfl, a1x, a2x⟩ := hq
          refine e_goto rfl ?_
          by_cases hs : sgH B n (rTest B n m (goN B n st)).2.1 = 93
          · rw [if_pos hs, if_pos hs] at a1x
            have eF : rFact B n (m + 1) st = (0, goN B n (rTest B n m (goN B n st)).2) := by unfold rTest at e2x hs ⊢; rw [rFact, if_neg b9x, if_pos b27x, if_neg (fun q => q e2x), if_pos hs]
            exact Eg.ret rfl (by decide) rfl ⟨rfl, J, rfl, by rw [eF]; exact ⟨q2'.tr (QFr.of a2x), Or.inl ⟨rfl, c2x.go h9x a1x a2x⟩⟩⟩
          · rw [if_neg hs, if_neg hs] at a1x
            have eF : (rFact B n (m + 1) st).1 = fl 0 (rTest B n m (goN B n st)).2.1 0 := by unfold rTest at e2x hs ⊢; rw [rFact, if_neg b9x, if_pos b27x, if_neg (fun q => q e2x), if_neg hs]
            have hp2x := c2x.le.1
            exact Eg.ret rfl (by decide) rfl ⟨rfl, J, rfl, rRes.wk (q2'.tr (QFr.of a2x)) (by rw [eF]; exact c2x.wk h9x (fl_ne (by omega)) a1x a2x)⟩
        · obtain ⟨z2x, p2x, -, -, r2x, -⟩ := id v2x
          have q2' := QFr.tr ((QFr.of g2x)) q2x
          refine e_aload rfl rfl ?_
          refine e_getR rfl hA.1 hA.2.1 ?_
          refine e_ipush rfl ?_
          refine Eg.c2 rfl (by decide) (by decide) rfl (Nat.le_of_ble_eq_true rfl) (xrcv_of rfl hT.1 rfl) (((cs_takeSignW hT hA hU v2x).mono (by omega))) (fun r1x h1x hq => ?_)
          obtain ⟨rfl, K3x, rfl, v3x, k3x⟩ := hq
          replace k3x := QFr.tr (q2') k3x
          obtain ⟨-, p3x, -, -, r3x, -⟩ := id v3x
          refine e_goto rfl ?_
          have eF : (rFact B n (m + 1) st).1 = (rTest B n m (goN B n st)).1 := by unfold rTest at z2x ⊢; rw [rFact, if_neg b9x, if_pos b27x, if_pos z2x]
          exact Eg.ret rfl (by decide) rfl ⟨rfl, K3x, rfl, rRes.wk k3x (by rw [eF]; exact v3x)⟩
    · refine e_ipush rfl ?_
      refine e_goto rfl ?_
      refine e_istore rfl ?_
      refine e_aload rfl rfl ?_
      refine e_getR rfl hA.1 hA.2.1 ?_
      refine Eg.p1 rfl (by decide) (by decide) rfl (Nat.le_of_ble_eq_true rfl) (xrcv_of rfl hT.1 rfl) (((cs_signHere hT hr.1).mono (by omega))) ?_
      refine e_ipush rfl ?_
      refine e_cne_b rfl (fun b27x => ?_) (fun b27x => ?_)
      · refine e_ipush rfl ?_
        refine e_istore rfl ?_
        refine e_iload rfl rfl ?_
        refine e_ifne_t rfl (by decide) ?_
        refine e_iload rfl rfl ?_
        refine e_ipush rfl ?_
        refine e_clt_t rfl h10x ?_
        refine e_iload rfl rfl ?_
        refine e_ifeq_f rfl (by decide) ?_
        refine e_aload rfl rfl ?_
        refine e_getR rfl hA.1 hA.2.1 ?_
        refine Eg.c1 rfl (by decide) (by decide) rfl (Nat.le_of_ble_eq_true rfl) (xrcv_of rfl hT.1 rfl) (((cs_step hT hr.1).mono (by omega))) (fun r1x h1x hq => ?_)
        obtain ⟨rfl, K1x, rfl, g1x, g2x⟩ := hq
        have c1x : Cst K1x B n E ru (goN B n st) := hr.go h9x g1x g2x
        refine e_aload rfl rfl ?_
        refine e_iload rfl rfl ?_
        refine e_ipush rfl ?_
        refine e_iadd rfl ?_
        rw [show (nI d) + 1 = nI (d + 1) from nI_1 _]
        refine Eg.c2 rfl (by decide) (by decide) rfl (Nat.le_of_ble_eq_true rfl) (xrcv_of rfl hA.1 rfl) (((ih _ (d + 1) (goN B n st) (by omega) c1x).mono (by omega))) (fun r1x h1x hq => ?_)
        obtain ⟨rfl, K2x, rfl, q2x, hc⟩ := hq
        rcases hc with ⟨e2x, c2x⟩ | v2x
        · have q2' := QFr.tr ((QFr.of g2x)) q2x
          obtain ⟨n1x, n2x, n3x⟩ := nxt_w (B := B) (n := n) (p := st.1) (w := 12) (by decide) b9x
          have hb1x := bdN (k := 0) (st := st) hbd n1x
          have hb2x : 2 * ((rFact B n m (goN B n st)).2.2.2.length + 1) ≤ 2 * (rFact B n m (goN B n st)).2.2.1 + (rFact B n m (goN B n st)).2.1 := (rFact_G hn m _ c1x.1.tok e2x).bd (j := 1) (by decide) hb1x
          refine e_aload rfl rfl ?_
          refine e_getR rfl hA.1 hA.2.2.1 ?_
          refine e_ipush rfl ?_
          refine Eg.c2 rfl (by decide) (by decide) rfl (Nat.le_of_ble_eq_true rfl) (xrcv_of rfl hU.1 rfl) (((cs_raddA (j := 9) hA hU c2x hb2x (by decide)).mono (by omega))) (fun r1x h1x hq => ?_)
          obtain ⟨rfl, K3x, rfl, c3x, q3x⟩ := hq
          have q3' := QFr.tr (q2') q3x
          refine e_goto rfl ?_
          have eF : rFact B n (m + 1) st = (0, (adE 9 (rFact B n m (goN B n st)).2)) := by rw [rFact, if_pos b9x, if_neg (fun q => q e2x)]
          exact Eg.ret rfl (by decide) rfl ⟨rfl, K3x, rfl, by rw [eF]; exact ⟨q3', Or.inl ⟨rfl, c3x⟩⟩⟩
        · obtain ⟨z2x, p2x, -, -, r2x, -⟩ := id v2x
          have q2' := QFr.tr ((QFr.of g2x)) q2x
          refine e_aload rfl rfl ?_
          refine e_getR rfl hA.1 hA.2.2.1 ?_
          refine e_ipush rfl ?_
          refine Eg.c2 rfl (by decide) (by decide) rfl (Nat.le_of_ble_eq_true rfl) (xrcv_of rfl hU.1 rfl) (((cs_raddW hA hU v2x).mono (by omega))) (fun r1x h1x hq => ?_)
          obtain ⟨rfl, K3x, rfl, v3x, k3x⟩ := hq
          replace k3x := QFr.tr (q2') k3x
          obtain ⟨-, p3x, -, -, r3x, -⟩ := id v3x
          refine e_goto rfl ?_
          have eF : (rFact B n (m + 1) st).1 = (rFact B n m (goN B n st)).1 := by rw [rFact, if_pos b9x, if_pos z2x]
          exact Eg.ret rfl (by decide) rfl ⟨rfl, K3x, rfl, rRes.wk k3x (by rw [eF]; exact v3x)⟩
      · refine e_ipush rfl ?_
        refine e_goto rfl ?_
        refine e_istore rfl ?_
        refine e_iload rfl rfl ?_
        refine e_ifne_t rfl (by decide) ?_
        refine e_iload rfl rfl ?_
        refine e_ipush rfl ?_
        refine e_clt_t rfl h10x ?_
        refine e_iload rfl rfl ?_
        refine e_ifeq_f rfl (by decide) ?_
        refine e_aload rfl rfl ?_
        refine e_getR rfl hA.1 hA.2.1 ?_
        refine Eg.c1 rfl (by decide) (by decide) rfl (Nat.le_of_ble_eq_true rfl) (xrcv_of rfl hT.1 rfl) (((cs_step hT hr.1).mono (by omega))) (fun r1x h1x hq => ?_)
        obtain ⟨rfl, K1x, rfl, g1x, g2x⟩ := hq
        have c1x : Cst K1x B n E ru (goN B n st) := hr.go h9x g1x g2x
        refine e_aload rfl rfl ?_
        refine e_iload rfl rfl ?_
        refine e_ipush rfl ?_
        refine e_iadd rfl ?_
        rw [show (nI d) + 1 = nI (d + 1) from nI_1 _]
        refine Eg.c2 rfl (by decide) (by decide) rfl (Nat.le_of_ble_eq_true rfl) (xrcv_of rfl hA.1 rfl) (((ih _ (d + 1) (goN B n st) (by omega) c1x).mono (by omega))) (fun r1x h1x hq => ?_)
        obtain ⟨rfl, K2x, rfl, q2x, hc⟩ := hq
        rcases hc with ⟨e2x, c2x⟩ | v2x
        · have q2' := QFr.tr ((QFr.of g2x)) q2x
          obtain ⟨n1x, n2x, n3x⟩ := nxt_w (B := B) (n := n) (p := st.1) (w := 12) (by decide) b9x
          have hb1x := bdN (k := 0) (st := st) hbd n1x
          have hb2x : 2 * ((rFact B n m (goN B n st)).2.2.2.length + 1) ≤ 2 * (rFact B n m (goN B n st)).2.2.1 + (rFact B n m (goN B n st)).2.1 := (rFact_G hn m _ c1x.1.tok e2x).bd (j := 1) (by decide) hb1x
          refine e_aload rfl rfl ?_
          refine e_getR rfl hA.1 hA.2.2.1 ?_
          refine e_ipush rfl ?_
          refine Eg.c2 rfl (by decide) (by decide) rfl (Nat.le_of_ble_eq_true rfl) (xrcv_of rfl hU.1 rfl) (((cs_raddA (j := 9) hA hU c2x hb2x (by decide)).mono (by omega))) (fun r1x h1x hq => ?_)
          obtain ⟨rfl, K3x, rfl, c3x, q3x⟩ := hq
          have q3' := QFr.tr (q2') q3x
          refine e_goto rfl ?_
          have eF : rFact B n (m + 1) st = (0, (adE 9 (rFact B n m (goN B n st)).2)) := by rw [rFact, if_pos b9x, if_neg (fun q => q e2x)]
          exact Eg.ret rfl (by decide) rfl ⟨rfl, K3x, rfl, by rw [eF]; exact ⟨q3', Or.inl ⟨rfl, c3x⟩⟩⟩
        · obtain ⟨z2x, p2x, -, -, r2x, -⟩ := id v2x
          have q2' := QFr.tr ((QFr.of g2x)) q2x
          refine e_aload rfl rfl ?_
          refine e_getR rfl hA.1 hA.2.2.1 ?_
          refine e_ipush rfl ?_
          refine Eg.c2 rfl (by decide) (by decide) rfl (Nat.le_of_ble_eq_true rfl) (xrcv_of rfl hU.1 rfl) (((cs_raddW hA hU v2x).mono (by omega))) (fun r1x h1x hq => ?_)
          obtain ⟨rfl, K3x, rfl, v3x, k3x⟩ := hq
          replace k3x := QFr.tr (q2') k3x
          obtain ⟨-, p3x, -, -, r3x, -⟩ := id v3x
          refine e_goto rfl ?_
          have eF : (rFact B n (m + 1) st).1 = (rFact B n m (goN B n st)).1 := by rw [rFact, if_pos b9x, if_pos z2x]
          exact Eg.ret rfl (by decide) rfl ⟨rfl, K3x, rfl, rRes.wk k3x (by rw [eF]; exact v3x)⟩
end CR6x
