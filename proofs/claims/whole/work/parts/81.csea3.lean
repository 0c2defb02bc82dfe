/-! A SEA read, the one side: all its clauses -/
section CT3x
variable {X : xX} {h : xH} {sh : List (Nat × Nat)} {I : Nat → Nat → Int32} {L : Nat → Nat → Int64} {R : Nat → Nat → Option Nat} {B : Nat → Nat} {n : Nat} {u : Nat → Nat → Int32} {s : Nat}
def bI (b : Bool) : Int32 := if b then 1 else 0
theorem bI_0 {b : Bool} : bI b = 0 ↔ ¬ b = true := by cases b <;> decide
theorem bI_01 {b : Bool} : bI b = 0 ∨ bI b = 1 := by cases b <;> decide
theorem kP_le {q a b : Nat} {f : Int32} (hq : q ≤ n) : kP B n q f a b ≤ n := by
  unfold kP tkP; split
  · exact (nxt_le hq).2.1
  · exact hq
theorem kP_tok {q a b : Nat} {f : Int32} (hq : tok B n q) : tok B n (kP B n q f a b) := by
  unfold kP tkP; split
  · exact tok_nxt hq
  · exact hq
theorem sPU_wf {w q : Nat} {st : Bool} (hw : WfU u) (hq : q ≤ n) (hn : n ≤ 400) (hw7x : w < 7) (hfl : ¬ sFull u st w = true) (h2x : w ≠ 0 → 2 ≤ cn u 0) (h0x : w = 0 → cn u 0 = 0) (e : sPF B n u w q = 0) : WfU (sPU B n u w q) ∧ 2 ≤ cn (sPU B n u w q) 0 := by
  have nf := sFull_n hfl
  have hb := hw.1.2
  have cases7 : w = 0 ∨ w = 1 ∨ w = 2 ∨ w = 3 ∨ w = 4 ∨ w = 5 ∨ w = 6 := by omega
  rcases cases7 with rfl | rfl | rfl | rfl | rfl | rfl | rfl
  · rw [sPF_0] at e
    rw [sPU_0]
    have t1x := tk_get (B := B) (f := 0) (a := 2) (b := 12) hq hn (by decide) (by decide) e
    have := h0x rfl
    refine ⟨hw.sea (by omega) t1x.2.2.1, ?_⟩
    show 2 ≤ cn (xu u 1 0 (nI (tn B n q))) 0
    rw [cn_of xu_at (by omega)]; exact t1x.2.1
  · rw [sPF_1] at e
    rw [sPU_1]
    have hP1x : kP B n q 0 0 9 ≤ n := kP_le hq
    have hP2x : (kP B n (kP B n q 0 0 9) (kF B n q 0 0 9) 0 29) ≤ n := kP_le hP1x
    obtain ⟨e2x, w2x, w20x, wt, wd⟩ := rwF_0 hP2x hn e
    have e1x := kF_0 e2x
    have t1x := tk_get (B := B) (f := 0) (a := 0) (b := 9) hq hn (by decide) (by decide) e1x
    have t2x := tk_get (B := B) (f := kF B n q 0 0 9) (a := 0) (b := 29) hP1x hn (by decide) (by decide) e2x
    have hd2x := dend_le (B := B) (n := n) (p := (kP B n (kP B n q 0 0 9) (kF B n q 0 0 9) 0 29))
    refine ⟨hw.trn (nf.1 rfl) w2x w20x t1x.2.2.1 t2x.2.2.1 (fun i hi => ?_), ?_⟩
    · have := isD_iff.mp (dend_in (B := B) (n := n) (p := (kP B n (kP B n q 0 0 9) (kF B n q 0 0 9) 0 29)) (i := (kP B n (kP B n q 0 0 9) (kF B n q 0 0 9) 0 29) + i) (by omega) (by omega))
      exact ⟨_, rfl, by omega⟩
    · show 2 ≤ cn (fTrn u _ _ _ _) 0
      rw [show cn (fTrn u (nI (tn B n q)) (nI (tn B n (kP B n q 0 0 9))) (rwN B n (kP B n (kP B n q 0 0 9) (kF B n q 0 0 9) 0 29)) (fun i => nI (B ((kP B n (kP B n q 0 0 9) (kF B n q 0 0 9) 0 29) + i) - 48))) 0 = cn u 0 from by unfold cn fTrn; rw [if_neg (by omega), telF_o (by omega) (by omega)]]
      exact h2x (by decide)
  · rw [sPF_2] at e
    rw [sPU_2]
    have hP1x : kP B n q 0 0 (cn u 0 - 1) ≤ n := kP_le hq
    have t2x := tk_get (B := B) (f := kF B n q 0 0 (cn u 0 - 1)) (a := 0) (b := 20) hP1x hn (by decide) (by decide) e
    refine ⟨hw.grn t2x.2.2.1, ?_⟩
    show 2 ≤ cn (xu u 2 _ _) 0
    rw [show cn (xu u 2 (tn B n q) (nI (tn B n (kP B n q 0 0 (cn u 0 - 1))))) 0 = cn u 0 from by unfold cn; rw [xu_o (Or.inl (by decide))]]
    exact h2x (by decide)
  · rw [sPF_3] at e
    rw [sPU_3]
    have h20x := h2x (by decide)
    have hP1x : (kP B n q 0 0 (cn u 0 - 1)) ≤ n := kP_le hq
    have hP2x : (kP B n (kP B n q 0 0 (cn u 0 - 1)) (kF B n q 0 0 (cn u 0 - 1)) 0 60) ≤ n := kP_le hP1x
    have e2x : (kF B n (kP B n q 0 0 (cn u 0 - 1)) (kF B n q 0 0 (cn u 0 - 1)) 0 60) = 0 := kF_0 e
    have e1x := kF_0 e2x
    have t1x := tk_get (B := B) (f := 0) (a := 0) (b := (cn u 0 - 1)) hq hn (by omega) (by omega) e1x
    have t2x := tk_get (B := B) (f := (kF B n q 0 0 (cn u 0 - 1))) (a := 0) (b := 60) hP1x hn (by decide) (by decide) e2x
    have t3x := tk_get (B := B) (f := (kF B n (kP B n q 0 0 (cn u 0 - 1)) (kF B n q 0 0 (cn u 0 - 1)) 0 60)) (a := 1) (b := 99) hP2x hn (by decide) (by decide) e
    refine ⟨hw.wel (nf.2.1 rfl) ⟨_, rfl, by omega⟩ ⟨_, rfl, t2x.2.2.1⟩ ⟨_, rfl, t3x.2.1, t3x.2.2.1⟩, ?_⟩
    show 2 ≤ cn (telF u 2 7 8 9 _ _ _) 0
    rw [telF_cn (by decide) (by decide) (by decide) (by decide)]; exact h20x
  · rw [sPF_4] at e
    rw [sPU_4]
    have h20x := h2x (by decide)
    have hP1x : (kP B n q 0 0 (cn u 0 - 1)) ≤ n := kP_le hq
    have hP2x : (kP B n (kP B n q 0 0 (cn u 0 - 1)) (kF B n q 0 0 (cn u 0 - 1)) 0 60) ≤ n := kP_le hP1x
    have e2x : (kF B n (kP B n q 0 0 (cn u 0 - 1)) (kF B n q 0 0 (cn u 0 - 1)) 0 60) = 0 := kF_0 e
    have e1x := kF_0 e2x
    have t1x := tk_get (B := B) (f := 0) (a := 0) (b := (cn u 0 - 1)) hq hn (by omega) (by omega) e1x
    have t2x := tk_get (B := B) (f := (kF B n q 0 0 (cn u 0 - 1))) (a := 0) (b := 60) hP1x hn (by decide) (by decide) e2x
    have t3x := tk_get (B := B) (f := (kF B n (kP B n q 0 0 (cn u 0 - 1)) (kF B n q 0 0 (cn u 0 - 1)) 0 60)) (a := 1) (b := 99) hP2x hn (by decide) (by decide) e
    refine ⟨hw.twn (nf.2.2.1 rfl) ⟨_, rfl, by omega⟩ ⟨_, rfl, t2x.2.2.1⟩ ⟨_, rfl, t3x.2.1, t3x.2.2.1⟩, ?_⟩
    show 2 ≤ cn (telF u 3 10 11 12 _ _ _) 0
    rw [telF_cn (by decide) (by decide) (by decide) (by decide)]; exact h20x
  · rw [sPF_5] at e
    rw [sPU_5]
    have h20x := h2x (by decide)
    have hP1x : (kP B n q 0 0 (cn u 0 - 1)) ≤ n := kP_le hq
    have hP2x : (kP B n (kP B n q 0 0 (cn u 0 - 1)) (kF B n q 0 0 (cn u 0 - 1)) 1 30) ≤ n := kP_le hP1x
    have e2x : (kF B n (kP B n q 0 0 (cn u 0 - 1)) (kF B n q 0 0 (cn u 0 - 1)) 1 30) = 0 := kF_0 e
    have e1x := kF_0 e2x
    have t1x := tk_get (B := B) (f := 0) (a := 0) (b := (cn u 0 - 1)) hq hn (by omega) (by omega) e1x
    have t2x := tk_get (B := B) (f := (kF B n q 0 0 (cn u 0 - 1))) (a := 1) (b := 30) hP1x hn (by decide) (by decide) e2x
    have t3x := tk_get (B := B) (f := (kF B n (kP B n q 0 0 (cn u 0 - 1)) (kF B n q 0 0 (cn u 0 - 1)) 1 30)) (a := 0) (b := 20) hP2x hn (by decide) (by decide) e
    refine ⟨hw.shp (nf.2.2.2 rfl) ⟨_, rfl, by omega⟩ ⟨_, rfl, t2x.2.1, t2x.2.2.1⟩ ⟨_, rfl, t3x.2.2.1⟩, ?_⟩
    show 2 ≤ cn (telF u 4 13 15 16 _ _ _) 0
    rw [telF_cn (by decide) (by decide) (by decide) (by decide)]; exact h20x
  · rw [sPF_6] at e
    rw [sPU_6]
    have hP1x : kP B n q 0 0 9 ≤ n := kP_le hq
    have e1x := kF_0 e
    have t1x := tk_get (B := B) (f := 0) (a := 0) (b := 9) hq hn (by decide) (by decide) e1x
    have t2x := tk_get (B := B) (f := kF B n q 0 0 9) (a := max 1 (tn B n q)) (b := 9) hP1x hn (by omega) (by decide) e
    refine ⟨hw.stm (by omega) (by omega) t2x.2.2.1, ?_⟩
    show 2 ≤ cn (fStm u _ _) 0
    rw [show cn (fStm u (nI (tn B n q)) (nI (tn B n (kP B n q 0 0 9)))) 0 = cn u 0 from by unfold cn fStm; rw [xu_o (by decide), xu_o (by decide)]]
    exact h2x (by decide)
theorem cs_isFull (hA : SRAt sh R s) (hS : SeaAt sh R s) (hV : SeaS I s u) (hw : WfU u) {w : Nat} (hw7x : w < 7) {st : Bool} (hst : I 6 2 = bI st) : Ec X 1 100 [.ref 6, .int (nI w)] (sh, I, L, R) (fun r h' => r = some (.int (yn (sFull u st w = true))) ∧ h' = (sh, I, L, R)) := by
  have hb := hw.1.2
  refine Ec.of (Nat.le_of_ble_eq_true rfl) ?_
  refine e_iload rfl rfl ?_
  have cases7 : w = 0 ∨ w = 1 ∨ w = 2 ∨ w = 3 ∨ w = 4 ∨ w = 5 ∨ w = 6 := by omega
  rcases cases7 with rfl | rfl | rfl | rfl | rfl | rfl | rfl
  · refine e_tswd rfl (by decide) ?_
    refine e_ipush rfl ?_
    exact Eg.ret rfl (by decide) rfl ⟨congrArg (fun z => some (Value.int z)) (yn_f (fun q => by have := sFull_iff.mp q; omega)).symm, rfl⟩
  · refine e_tsw rfl (by decide) rfl ?_
    refine e_aload rfl rfl ?_
    refine e_getR rfl hA.1 hA.2.2.1 ?_
    refine e_getIv rfl hS.1 (hV.1.1 1 (by decide)) ?_
    refine e_ipush rfl ?_
    refine e_clt_b rfl (fun b48x => ?_) (fun b48x => ?_)
    · refine e_ipush rfl ?_
      exact Eg.ret rfl (by decide) rfl ⟨congrArg (fun z => some (Value.int z)) (yn_f (fun q => by have := sFull_iff.mp q; have := (nI_lti (b := 3) (by omega) (by decide)).mp b48x; omega)).symm, rfl⟩
    · refine e_ipush rfl ?_
      refine e_goto rfl ?_
      exact Eg.ret rfl (by decide) rfl ⟨congrArg (fun z => some (Value.int z)) (yn_t (sFull_iff.mpr (by have := nlt (b := 3) (by omega) (by decide) b48x; omega))).symm, rfl⟩
  · refine e_tsw rfl (by decide) rfl ?_
    refine e_ipush rfl ?_
    exact Eg.ret rfl (by decide) rfl ⟨congrArg (fun z => some (Value.int z)) (yn_f (fun q => by have := sFull_iff.mp q; omega)).symm, rfl⟩
  · refine e_tsw rfl (by decide) rfl ?_
    refine e_aload rfl rfl ?_
    refine e_getR rfl hA.1 hA.2.2.1 ?_
    refine e_getIv rfl hS.1 (hV.1.1 2 (by decide)) ?_
    refine e_ipush rfl ?_
    refine e_clt_b rfl (fun b65x => ?_) (fun b65x => ?_)
    · refine e_ipush rfl ?_
      exact Eg.ret rfl (by decide) rfl ⟨congrArg (fun z => some (Value.int z)) (yn_f (fun q => by have := sFull_iff.mp q; have := (nI_lti (b := 4) (by omega) (by decide)).mp b65x; omega)).symm, rfl⟩
    · refine e_ipush rfl ?_
      refine e_goto rfl ?_
      exact Eg.ret rfl (by decide) rfl ⟨congrArg (fun z => some (Value.int z)) (yn_t (sFull_iff.mpr (by have := nlt (b := 4) (by omega) (by decide) b65x; omega))).symm, rfl⟩
  · refine e_tsw rfl (by decide) rfl ?_
    refine e_aload rfl rfl ?_
    refine e_getR rfl hA.1 hA.2.2.1 ?_
    refine e_getIv rfl hS.1 (hV.1.1 3 (by decide)) ?_
    refine e_ipush rfl ?_
    refine e_clt_b rfl (fun b82x => ?_) (fun b82x => ?_)
    · refine e_ipush rfl ?_
      exact Eg.ret rfl (by decide) rfl ⟨congrArg (fun z => some (Value.int z)) (yn_f (fun q => by have := sFull_iff.mp q; have := (nI_lti (b := 4) (by omega) (by decide)).mp b82x; omega)).symm, rfl⟩
    · refine e_ipush rfl ?_
      refine e_goto rfl ?_
      exact Eg.ret rfl (by decide) rfl ⟨congrArg (fun z => some (Value.int z)) (yn_t (sFull_iff.mpr (by have := nlt (b := 4) (by omega) (by decide) b82x; omega))).symm, rfl⟩
  · refine e_tsw rfl (by decide) rfl ?_
    refine e_aload rfl rfl ?_
    refine e_getR rfl hA.1 hA.2.2.1 ?_
    refine e_getIv rfl hS.1 (hV.1.1 4 (by decide)) ?_
    refine e_ipush rfl ?_
    refine e_clt_b rfl (fun b99x => ?_) (fun b99x => ?_)
    · refine e_ipush rfl ?_
      exact Eg.ret rfl (by decide) rfl ⟨congrArg (fun z => some (Value.int z)) (yn_f (fun q => by have := sFull_iff.mp q; have := (nI_lti (b := 4) (by omega) (by decide)).mp b99x; omega)).symm, rfl⟩
    · refine e_ipush rfl ?_
      refine e_goto rfl ?_
      exact Eg.ret rfl (by decide) rfl ⟨congrArg (fun z => some (Value.int z)) (yn_t (sFull_iff.mpr (by have := nlt (b := 4) (by omega) (by decide) b99x; omega))).symm, rfl⟩
  · refine e_tsw rfl (by decide) rfl ?_
    refine e_aload rfl rfl ?_
    refine e_getIv rfl hA.1 hst ?_
    refine Eg.ret rfl (by decide) (if_pos bI_01 : xret 94 [.int (bI st)] _ = _) ⟨congrArg (fun z => some (Value.int z)) ?_, rfl⟩
    cases st
    · exact (yn_f (fun q => by have := sFull_iff.mp q; simp at this)).symm
    · exact (yn_t (sFull_iff.mpr (by simp))).symm
theorem cs_readClause (hT : TpAt sh R) (hA : SRAt sh R s) (hS : SeaAt sh R s) {E p i : Nat} {st : Bool} (hr : Rd I B n E p 0) (hV : SeaS I s u) (hw : WfU u) (hst : I 6 2 = bI st) (hi : i ≤ 40) (h2x : i ≠ 0 → 2 ≤ cn u 0) : Ec X 6 99 [.ref 6, .int (nI i)] (sh, I, L, R) (fun r h' => r = none ∧ ∃ (J : Nat → Nat → Int32) (p' : Nat), h' = (sh, J, L, R) ∧ Rd J B n E p' (sCF B n i p u st) ∧ (sCF B n i p u st = 0 → p' = sPP B n u (sKd B n p) (nxt B n p) ∧ SeaS J s (sPU B n u (sKd B n p) (nxt B n p)) ∧ J 6 2 = bI (st || sKd B n p == 6)) ∧ SG I J s) := by
  have hn := hr.1.1
  have hpn := hr.le
  have h9x := hA.2.2.2
  refine Ec.of (Nat.le_of_ble_eq_true rfl) ?_
  refine e_aload rfl rfl ?_
  refine e_getR rfl hA.1 hA.2.1 ?_
  refine Eg.p1 rfl (by decide) (by decide) rfl (Nat.le_of_ble_eq_true rfl) (xrcv_of rfl hT.1 rfl) ((cs_wordHere hT hr).mono (by decide)) ?_
  refine e_istore rfl ?_
  refine e_iload rfl rfl ?_
  refine e_iflt_b rfl (fun b9x => ?_) (fun b9x => ?_)
  · refine e_aload rfl rfl ?_
    refine e_getR rfl hA.1 hA.2.1 ?_
    refine e_ipush rfl ?_
    refine Eg.c2 rfl (by decide) (by decide) rfl (Nat.le_of_ble_eq_true rfl) (xrcv_of rfl hT.1 rfl) ((cs_fail hT hr (k := 0)).mono (by decide)) (fun r1x h1x hq => ?_)
    obtain ⟨rfl, J, rfl, a1x, a2x⟩ := hq
    refine e_goto rfl ?_
    have e7x : sKd B n p = 7 := sKd_7.mpr (Or.inl b9x)
    have eF : sCF B n i p u st = fl 0 p 0 := if_pos e7x
    exact Eg.ret rfl (by decide) rfl ⟨rfl, J, p, rfl, by rw [eF]; exact a1x, by rw [eF]; exact (fun e => absurd e (fl_ne (by omega))), (SF.of a2x).sg⟩
  · refine e_iload rfl rfl ?_
    refine e_ipush rfl ?_
    refine e_cle_b rfl (fun b15x => ?_) (fun b15x => ?_)
    · obtain ⟨ek, k7x⟩ := sKd_get (B := B) (n := n) (p := p) (fun q => q.elim b9x (fun q => Int32.not_lt.mpr b15x q))
      rw [ek]
      refine e_iload rfl rfl ?_
      refine e_ipush rfl ?_
      refine e_cge_b rfl (fun b32x => ?_) (fun b32x => ?_)
      · have b32x := (nI_lei (a := 40) (by decide) (by omega)).mp b32x
        refine e_aload rfl rfl ?_
        refine e_getR rfl hA.1 hA.2.1 ?_
        refine e_ipush rfl ?_
        refine Eg.c2 rfl (by decide) (by decide) rfl (Nat.le_of_ble_eq_true rfl) (xrcv_of rfl hT.1 rfl) ((cs_fail hT hr (k := 4)).mono (by decide)) (fun r1x h1x hq => ?_)
        obtain ⟨rfl, J, rfl, a1x, a2x⟩ := hq
        refine e_goto rfl ?_
        have eb : sBad u st i (sKd B n p) = true := decide_eq_true (Or.inl b32x)
        have eF : sCF B n i p u st = fl 0 p 4 := by unfold sCF; rw [if_neg (by omega), if_pos eb]
        exact Eg.ret rfl (by decide) rfl ⟨rfl, J, p, rfl, by rw [eF]; exact a1x, by rw [eF]; exact (fun e => absurd e (fl_ne (by omega))), (SF.of a2x).sg⟩
      · have b32x := nle (a := 40) (by decide) (by omega) b32x
        refine e_iload rfl rfl ?_
        refine e_ifne_b rfl (fun b36x => ?_) (fun b36x => ?_)
        · have b36x : ¬ i = 0 := fun e => b36x (by rw [e]; rfl)
          refine e_ipush rfl ?_
          refine e_iload rfl rfl ?_
          refine e_ifne_b rfl (fun b45x => ?_) (fun b45x => ?_)
          · have b45x : ¬ sKd B n p = 0 := fun e => b45x (by rw [e]; rfl)
            refine e_ipush rfl ?_
            have io : i = 0 ↔ sKd B n p = 0 := ⟨fun e => absurd e b36x, fun e => absurd e b45x⟩
            refine e_cne_f rfl rfl ?_
            refine e_aload rfl rfl ?_
            refine e_iload rfl rfl ?_
            refine Eg.p2 rfl (by decide) (by decide) rfl (Nat.le_of_ble_eq_true rfl) (xrcv_of rfl hA.1 rfl) ((cs_isFull hA hS hV hw k7x hst).mono (by decide)) ?_
            refine e_ifeq_b rfl (fun b61x => ?_) (fun b61x => ?_)
            · replace b61x := yn_0.mp b61x
              have nfl : ¬ sFull u st (sKd B n p) = true := b61x
              refine e_aload rfl rfl ?_
              refine e_getR rfl hA.1 hA.2.1 ?_
              refine Eg.c1 rfl (by decide) (by decide) rfl (Nat.le_of_ble_eq_true rfl) (xrcv_of rfl hT.1 rfl) ((cs_step hT hr).mono (by decide)) (fun r1x h1x hq => ?_)
              obtain ⟨rfl, J, rfl, a1x, a2x⟩ := hq
              refine e_aload rfl rfl ?_
              refine e_iload rfl rfl ?_
              refine Eg.c2 rfl (by decide) (by decide) rfl (Nat.le_of_ble_eq_true rfl) (xrcv_of rfl hA.1 rfl) ((cs_readNumbers hT hA hS a1x (hV.fr (fun i k q1x q2x => a2x i k (by omega))) hw k7x nfl (fun e => h2x (fun e0x => by omega))).mono (by decide)) (fun r1x h1x hq => ?_)
              obtain ⟨rfl, K, p', rfl, b1x, b2x, b3x, b4x⟩ := hq
              have eb : ¬ sBad u st i (sKd B n p) = true := fun q => (of_decide_eq_true q).elim (fun q => by omega) (fun q => q.elim (fun q => q io) nfl)
              have eF : sCF B n i p u st = sPF B n u (sKd B n p) (nxt B n p) := by unfold sCF; rw [if_neg (by omega), if_neg eb]
              refine Eg.ret rfl (by decide) rfl ⟨rfl, K, p', rfl, by rw [eF]; exact b1x, fun e => ?_, (SF.of a2x).sg.tr b3x⟩
              rw [eF] at e
              refine ⟨(b2x e).1, (b2x e).2, b4x.trans ?_⟩
              by_cases e6x : sKd B n p = 6
              · rw [if_pos e6x, e6x]; cases st <;> rfl
              · rw [if_neg e6x, show (sKd B n p == 6) = false from beq_false_of_ne e6x, Bool.or_false]; exact (a2x 6 2 (by decide)).trans hst
            · replace b61x := yn_n0.mp b61x
              refine e_aload rfl rfl ?_
              refine e_getR rfl hA.1 hA.2.1 ?_
              refine e_ipush rfl ?_
              refine Eg.c2 rfl (by decide) (by decide) rfl (Nat.le_of_ble_eq_true rfl) (xrcv_of rfl hT.1 rfl) ((cs_fail hT hr (k := 4)).mono (by decide)) (fun r1x h1x hq => ?_)
              obtain ⟨rfl, J, rfl, a1x, a2x⟩ := hq
              refine e_goto rfl ?_
              have eb : sBad u st i (sKd B n p) = true := decide_eq_true (Or.inr (Or.inr b61x))
              have eF : sCF B n i p u st = fl 0 p 4 := by unfold sCF; rw [if_neg (by omega), if_pos eb]
              exact Eg.ret rfl (by decide) rfl ⟨rfl, J, p, rfl, by rw [eF]; exact a1x, by rw [eF]; exact (fun e => absurd e (fl_ne (by omega))), (SF.of a2x).sg⟩
          · have b45x : sKd B n p = 0 := (nI_eq (b := 0) (by omega) (by decide)).mp b45x
            refine e_ipush rfl ?_
            refine e_goto rfl ?_
            have nio : ¬ (i = 0 ↔ sKd B n p = 0) := fun q => b36x (q.mpr b45x)
            refine e_cne_t rfl (by decide) ?_
            refine e_aload rfl rfl ?_
            refine e_getR rfl hA.1 hA.2.1 ?_
            refine e_ipush rfl ?_
            refine Eg.c2 rfl (by decide) (by decide) rfl (Nat.le_of_ble_eq_true rfl) (xrcv_of rfl hT.1 rfl) ((cs_fail hT hr (k := 4)).mono (by decide)) (fun r1x h1x hq => ?_)
            obtain ⟨rfl, J, rfl, a1x, a2x⟩ := hq
            refine e_goto rfl ?_
            have eb : sBad u st i (sKd B n p) = true := decide_eq_true (Or.inr (Or.inl nio))
            have eF : sCF B n i p u st = fl 0 p 4 := by unfold sCF; rw [if_neg (by omega), if_pos eb]
            exact Eg.ret rfl (by decide) rfl ⟨rfl, J, p, rfl, by rw [eF]; exact a1x, by rw [eF]; exact (fun e => absurd e (fl_ne (by omega))), (SF.of a2x).sg⟩
        · have b36x : i = 0 := (nI_eq (b := 0) (by omega) (by decide)).mp b36x
          refine e_ipush rfl ?_
          refine e_goto rfl ?_
          refine e_iload rfl rfl ?_
          refine e_ifne_b rfl (fun b45x => ?_) (fun b45x => ?_)
          · have b45x : ¬ sKd B n p = 0 := fun e => b45x (by rw [e]; rfl)
            refine e_ipush rfl ?_
            have nio : ¬ (i = 0 ↔ sKd B n p = 0) := fun q => b45x (q.mp b36x)
            refine e_cne_t rfl (by decide) ?_
            refine e_aload rfl rfl ?_
            refine e_getR rfl hA.1 hA.2.1 ?_
            refine e_ipush rfl ?_
            refine Eg.c2 rfl (by decide) (by decide) rfl (Nat.le_of_ble_eq_true rfl) (xrcv_of rfl hT.1 rfl) ((cs_fail hT hr (k := 4)).mono (by decide)) (fun r1x h1x hq => ?_)
            obtain ⟨rfl, J, rfl, a1x, a2x⟩ := hq
            refine e_goto rfl ?_
            have eb : sBad u st i (sKd B n p) = true := decide_eq_true (Or.inr (Or.inl nio))
            have eF : sCF B n i p u st = fl 0 p 4 := by unfold sCF; rw [if_neg (by omega), if_pos eb]
            exact Eg.ret rfl (by decide) rfl ⟨rfl, J, p, rfl, by rw [eF]; exact a1x, by rw [eF]; exact (fun e => absurd e (fl_ne (by omega))), (SF.of a2x).sg⟩
          · have b45x : sKd B n p = 0 := (nI_eq (b := 0) (by omega) (by decide)).mp b45x
            refine e_ipush rfl ?_
            refine e_goto rfl ?_
            have io : i = 0 ↔ sKd B n p = 0 := ⟨fun _ => b45x, fun _ => b36x⟩
            refine e_cne_f rfl rfl ?_
            refine e_aload rfl rfl ?_
            refine e_iload rfl rfl ?_
            refine Eg.p2 rfl (by decide) (by decide) rfl (Nat.le_of_ble_eq_true rfl) (xrcv_of rfl hA.1 rfl) ((cs_isFull hA hS hV hw k7x hst).mono (by decide)) ?_
            refine e_ifeq_b rfl (fun b61x => ?_) (fun b61x => ?_)
            · replace b61x := yn_0.mp b61x
              have nfl : ¬ sFull u st (sKd B n p) = true := b61x
              refine e_aload rfl rfl ?_
              refine e_getR rfl hA.1 hA.2.1 ?_
              refine Eg.c1 rfl (by decide) (by decide) rfl (Nat.le_of_ble_eq_true rfl) (xrcv_of rfl hT.1 rfl) ((cs_step hT hr).mono (by decide)) (fun r1x h1x hq => ?_)
              obtain ⟨rfl, J, rfl, a1x, a2x⟩ := hq
              refine e_aload rfl rfl ?_
              refine e_iload rfl rfl ?_
              refine Eg.c2 rfl (by decide) (by decide) rfl (Nat.le_of_ble_eq_true rfl) (xrcv_of rfl hA.1 rfl) ((cs_readNumbers hT hA hS a1x (hV.fr (fun i k q1x q2x => a2x i k (by omega))) hw k7x nfl (fun e => h2x (fun e0x => by omega))).mono (by decide)) (fun r1x h1x hq => ?_)
              obtain ⟨rfl, K, p', rfl, b1x, b2x, b3x, b4x⟩ := hq
              have eb : ¬ sBad u st i (sKd B n p) = true := fun q => (of_decide_eq_true q).elim (fun q => by omega) (fun q => q.elim (fun q => q io) nfl)
              have eF : sCF B n i p u st = sPF B n u (sKd B n p) (nxt B n p) := by unfold sCF; rw [if_neg (by omega), if_neg eb]
              refine Eg.ret rfl (by decide) rfl ⟨rfl, K, p', rfl, by rw [eF]; exact b1x, fun e => ?_, (SF.of a2x).sg.tr b3x⟩
              rw [eF] at e
              refine ⟨(b2x e).1, (b2x e).2, b4x.trans ?_⟩
              by_cases e6x : sKd B n p = 6
              · rw [if_pos e6x, e6x]; cases st <;> rfl
              · rw [if_neg e6x, show (sKd B n p == 6) = false from beq_false_of_ne e6x, Bool.or_false]; exact (a2x 6 2 (by decide)).trans hst
            · replace b61x := yn_n0.mp b61x
              refine e_aload rfl rfl ?_
              refine e_getR rfl hA.1 hA.2.1 ?_
              refine e_ipush rfl ?_
              refine Eg.c2 rfl (by decide) (by decide) rfl (Nat.le_of_ble_eq_true rfl) (xrcv_of rfl hT.1 rfl) ((cs_fail hT hr (k := 4)).mono (by decide)) (fun r1x h1x hq => ?_)
              obtain ⟨rfl, J, rfl, a1x, a2x⟩ := hq
              refine e_goto rfl ?_
              have eb : sBad u st i (sKd B n p) = true := decide_eq_true (Or.inr (Or.inr b61x))
              have eF : sCF B n i p u st = fl 0 p 4 := by unfold sCF; rw [if_neg (by omega), if_pos eb]
              exact Eg.ret rfl (by decide) rfl ⟨rfl, J, p, rfl, by rw [eF]; exact a1x, by rw [eF]; exact (fun e => absurd e (fl_ne (by omega))), (SF.of a2x).sg⟩
    · refine e_aload rfl rfl ?_
      refine e_getR rfl hA.1 hA.2.1 ?_
      refine e_ipush rfl ?_
      refine Eg.c2 rfl (by decide) (by decide) rfl (Nat.le_of_ble_eq_true rfl) (xrcv_of rfl hT.1 rfl) ((cs_fail hT hr (k := 0)).mono (by decide)) (fun r1x h1x hq => ?_)
      obtain ⟨rfl, J, rfl, a1x, a2x⟩ := hq
      refine e_goto rfl ?_
      have e7x : sKd B n p = 7 := sKd_7.mpr (Or.inr (Int32.not_le.mp b15x))
      have eF : sCF B n i p u st = fl 0 p 0 := if_pos e7x
      exact Eg.ret rfl (by decide) rfl ⟨rfl, J, p, rfl, by rw [eF]; exact a1x, by rw [eF]; exact (fun e => absurd e (fl_ne (by omega))), (SF.of a2x).sg⟩
/-- nothing has been read yet -/
def U0x (u : Nat → Nat → Int32) : Prop := (∀ j, j < 6 → u 1 j = nI 0) ∧ u 1 6 = nI 1 ∧ ∀ c, c < 12 → u 2 c = nI 0
theorem U0x.c {j : Nat} (h : U0x u) (hj : j < 6) : cn u j = 0 := cn_of (h.1 j hj) (by decide)
theorem U0x.wf (h : U0x u) : WfU u := by
  have c := fun j (hj : j < 6) => h.c hj
  have c6x : cn u 6 = 1 := cn_of h.2.1 (by decide)
  refine ⟨⟨fun j hj => ?_, ?_⟩, fun t ht => ?_, fun k hk => ⟨0, h.2.2 k hk, by decide⟩, ⟨fun k hk => ?_, fun k hk => ?_⟩, fun k hk => ?_⟩
  · by_cases e : j = 6
    · subst e; rw [c6x]; exact h.2.1
    · rw [c j (by omega)]; exact h.1 j (by omega)
  · rw [c 0 (by decide), c 1 (by decide), c 2 (by decide), c 3 (by decide), c 4 (by decide), c 5 (by decide), c6x]; omega
  · rw [c 1 (by decide)] at ht; omega
  · rw [c 2 (by decide)] at hk; omega
  · rw [c 3 (by decide)] at hk; omega
  · rw [c 4 (by decide)] at hk; omega
theorem cs_clear (hS : SeaAt sh R s) (h0x : U0x u) : Ec X 2 82 [.ref s] (sh, I, L, R) (fun r h' => r = none ∧ ∃ J : Nat → Nat → Int32, h' = (sh, J, L, R) ∧ SeaS J s u ∧ ∀ i k, i < s ∨ s + 12 < i → J i k = I i k) := by
  have c := fun j (hj : j < 6) => h0x.c hj
  have c6x : cn u 6 = 1 := cn_of h0x.2.1 (by decide)
  refine Ec.of (Nat.le_of_ble_eq_true rfl) ?_
  refine e_aload rfl rfl ?_
  refine e_ipush rfl ?_
  refine e_putIJ rfl hS.1 (fun J1x g1x f1x => ?_)
  refine e_aload rfl rfl ?_
  refine e_ipush rfl ?_
  refine e_putIJ rfl hS.1 (fun J2x g2x f2x => ?_)
  refine e_aload rfl rfl ?_
  refine e_ipush rfl ?_
  refine e_putIJ rfl hS.1 (fun J3x g3x f3x => ?_)
  refine e_aload rfl rfl ?_
  refine e_ipush rfl ?_
  refine e_putIJ rfl hS.1 (fun J4x g4x f4x => ?_)
  refine e_aload rfl rfl ?_
  refine e_ipush rfl ?_
  refine e_putIJ rfl hS.1 (fun J5x g5x f5x => ?_)
  refine e_aload rfl rfl ?_
  refine e_ipush rfl ?_
  refine e_putIJ rfl hS.1 (fun J6x g6x f6x => ?_)
  refine e_aload rfl rfl ?_
  refine e_ipush rfl ?_
  refine e_putIJ rfl hS.1 (fun J7x g7x f7x => ?_)
  refine e_aload rfl rfl ?_
  refine e_ipush rfl ?_
  refine e_putIJ rfl hS.1 (fun J8x g8x f8x => ?_)
  refine e_aload rfl rfl ?_
  refine e_getR rfl hS.1 (hS.2 5 _ rfl).2 ?_
  refine e_ipush rfl ?_
  refine Eg.c2 rfl (by decide) (by decide) rfl (Nat.le_of_ble_eq_true rfl) (xrcv_ofs (Or.inl rfl)) ((cs_fill (a := s + 6) (n := 12) (x := 0) (hS.2 5 _ rfl).1 (by decide)).mono (by decide)) (fun r1x h1x hq => ?_)
  obtain ⟨rfl, K, rfl, z1x, z2x⟩ := hq
  refine Eg.ret rfl (by decide) rfl ⟨rfl, K, rfl, ⟨⟨fun j hj => ?_, ?_, ?_, fun d hd => ?_, fun t ht => ?_, fun k hk => ?_, fun k hk => ?_, fun k hk => ?_⟩, ⟨?_, fun t ht => ?_⟩, fun k hk => ?_⟩, fun i k hi => (z2x i k (by omega)).trans ((f8x i k (by omega)).trans ((f7x i k (by omega)).trans ((f6x i k (by omega)).trans ((f5x i k (by omega)).trans ((f4x i k (by omega)).trans ((f3x i k (by omega)).trans ((f2x i k (by omega)).trans (f1x i k (by omega)))))))))⟩
  · rw [c j (by omega)]
    have j5x : j = 0 ∨ j = 1 ∨ j = 2 ∨ j = 3 ∨ j = 4 := by omega
    rcases j5x with rfl | rfl | rfl | rfl | rfl
    · exact ((z2x _ _ (by omega)).trans ((f8x _ _ (by omega)).trans ((f7x _ _ (by omega)).trans ((f6x _ _ (by omega)).trans ((f5x _ _ (by omega)).trans ((f4x _ _ (by omega)).trans ((f3x _ _ (by omega)).trans ((f2x _ _ (by omega)).trans g1x))))))))
    · exact ((z2x _ _ (by omega)).trans ((f8x _ _ (by omega)).trans ((f7x _ _ (by omega)).trans ((f6x _ _ (by omega)).trans ((f5x _ _ (by omega)).trans ((f4x _ _ (by omega)).trans ((f3x _ _ (by omega)).trans g2x)))))))
    · exact ((z2x _ _ (by omega)).trans ((f8x _ _ (by omega)).trans ((f7x _ _ (by omega)).trans ((f6x _ _ (by omega)).trans ((f5x _ _ (by omega)).trans ((f4x _ _ (by omega)).trans g3x))))))
    · exact ((z2x _ _ (by omega)).trans ((f8x _ _ (by omega)).trans ((f7x _ _ (by omega)).trans ((f6x _ _ (by omega)).trans ((f5x _ _ (by omega)).trans g4x)))))
    · exact ((z2x _ _ (by omega)).trans ((f8x _ _ (by omega)).trans ((f7x _ _ (by omega)).trans ((f6x _ _ (by omega)).trans g5x))))
  · rw [c 5 (by decide)]; exact ((z2x _ _ (by omega)).trans ((f8x _ _ (by omega)).trans ((f7x _ _ (by omega)).trans g6x)))
  · rw [c6x]; exact ((z2x _ _ (by omega)).trans ((f8x _ _ (by omega)).trans g7x))
  · rw [h0x.2.2 d hd]; exact z1x d hd
  · rw [c 1 (by decide)] at ht; omega
  · rw [c 2 (by decide)] at hk; omega
  · rw [c 3 (by decide)] at hk; omega
  · rw [c 4 (by decide)] at hk; omega
  · rw [show rndN u = 1 from by unfold rndN; rw [c 1 (by decide)]; rfl]; exact ((z2x _ _ (by omega)).trans g8x)
  · rw [c 1 (by decide)] at ht; omega
  · rw [c 4 (by decide)] at hk; omega
theorem cs_readLoop (hT : TpAt sh R) (hA : SRAt sh R s) (hS : SeaAt sh R s) {E : Nat} : ∀ (k i p : Nat) (u : Nat → Nat → Int32) (st : Bool) (I : Nat → Nat → Int32), i + k = 41 → Rd I B n E p 0 → SeaS I s u → WfU u → I 6 2 = bI st → (i ≠ 0 → 2 ≤ cn u 0) → (i = 0 → cn u 0 = 0) → Eg X xTc 8 98 28 [(0, .ref 6), (2, .int 1), (3, .int (nI i))] [] (sh, I, L, R) (fun r h' => r = some (.int (sRd B n k i p u st).1) ∧ ∃ J : Nat → Nat → Int32, h' = (sh, J, L, R) ∧ TpB J B n ∧ ((sRd B n k i p u st).1 = 0 → SeaS J s (sRd B n k i p u st).2 ∧ WfU (sRd B n k i p u st).2 ∧ (1 ≤ i + k → 2 ≤ cn (sRd B n k i p u st).2 0)) ∧ SG I J s) := by
  have h9x := hA.2.2.2
  intro k
  induction k with
  | zero =>
    intro i p u st I hk hr hV hw hst h2x h0x
    have ei : i = 41 := by omega
    refine e_iload rfl rfl ?_
    refine e_ifeq_f rfl (by decide) ?_
    refine e_iload rfl rfl ?_
    refine e_ipush rfl ?_
    refine e_cgt_t rfl (by rw [ei]; decide) ?_
    refine e_aload rfl rfl ?_
    refine e_getR rfl hA.1 hA.2.1 ?_
    refine e_getIv rfl hT.1 hr.2.2.1 ?_
    exact Eg.ret rfl (by decide) rfl ⟨rfl, I, rfl, hr.1, fun _ => ⟨hV, hw, fun _ => h2x (by omega)⟩, fun i k _ _ _ => rfl⟩
  | succ k ih =>
    intro i p u st I hk hr hV hw hst h2x h0x
    have hn := hr.1.1
    have hpn := hr.le
    refine e_iload rfl rfl ?_
    refine e_ifeq_f rfl (by decide) ?_
    refine e_iload rfl rfl ?_
    refine e_ipush rfl ?_
    refine e_cgt_f rfl (fun q => absurd ((nI_lti (a := 40) (by decide) (by omega)).mp q) (by omega)) ?_
    refine e_aload rfl rfl ?_
    refine e_iload rfl rfl ?_
    refine Eg.c2 rfl (by decide) (by decide) rfl (Nat.le_of_ble_eq_true rfl) (xrcv_of rfl hA.1 rfl) ((cs_readClause hT hA hS hr hV hw hst (by omega) h2x).mono (by decide)) (fun r1x h1x hq => ?_)
    obtain ⟨rfl, J, p', rfl, a1x, a2x, a3x⟩ := hq
    refine e_aload rfl rfl ?_
    refine e_getR rfl hA.1 hA.2.1 ?_
    refine Eg.c1 rfl (by decide) (by decide) rfl (Nat.le_of_ble_eq_true rfl) (xrcv_of rfl hT.1 rfl) ((cs_goesOn hT a1x).mono (by decide)) (fun r1x h1x hq => ?_)
    obtain ⟨rfl, K, rfl, b1x, b2x⟩ := hq
    refine e_istore rfl ?_
    refine e_iinc rfl rfl ?_
    refine e_goto rfl ?_
    refine Eg.pk [0, 2, 3] [3, 2, 0] rfl (by decide) ?_
    rw [nI_1]
    by_cases hg : goB B n p' (sCF B n i p u st) = true
    · have eF : sCF B n i p u st = 0 := (of_decide_eq_true hg).1
      obtain ⟨e1x, e2x, e3x⟩ := a2x eF
      rw [eF, e1x] at hg
      rw [eF, e1x] at b1x
      rw [eF, e1x, yn_t hg]
      have nF : goF B n (sPP B n u (sKd B n p) (nxt B n p)) 0 = 0 := if_neg (fun q => q.2.2 (of_decide_eq_true hg).2.2)
      have nP : goP B n (sPP B n u (sKd B n p) (nxt B n p)) 0 = nxt B n (sPP B n u (sKd B n p) (nxt B n p)) := if_pos hg
      rw [nF, nP] at b1x
      have k7x : ¬ sKd B n p = 7 := fun q => by unfold sCF at eF; rw [if_pos q] at eF; exact fl_ne (by omega) eF
      have kk7x : sKd B n p < 7 := (sKd_get (fun q => k7x (sKd_7.mpr q))).2
      have nb : ¬ sBad u st i (sKd B n p) = true := fun q => by unfold sCF at eF; rw [if_neg k7x, if_pos q] at eF; exact fl_ne (by omega) eF
      have nb2x := fun x => nb (decide_eq_true x)
      have io : i = 0 ↔ sKd B n p = 0 := Decidable.byContradiction (fun q => nb2x (Or.inr (Or.inl q)))
      have eP : sPF B n u (sKd B n p) (nxt B n p) = 0 := by unfold sCF at eF; rw [if_neg k7x, if_neg nb] at eF; exact eF
      have wf := sPU_wf (st := st) hw (nxt_le hpn).2.1 hn kk7x (fun q => nb2x (Or.inr (Or.inr q))) (fun q => h2x (fun e => q (io.mp e))) (fun q => h0x (io.mpr q)) eP
      have key := ih (i + 1) (nxt B n (sPP B n u (sKd B n p) (nxt B n p))) (sPU B n u (sKd B n p) (nxt B n p)) (st || sKd B n p == 6) K (by omega) b1x (e2x.fr (fun i k q1x q2x => b2x i k (by omega))) wf.1 ((b2x 6 2 (by decide)).trans e3x) (fun _ => wf.2) (fun q => by omega)
      have eD : sRd B n (k + 1) i p u st = sRd B n k (i + 1) (nxt B n (sPP B n u (sKd B n p) (nxt B n p))) (sPU B n u (sKd B n p) (nxt B n p)) (st || sKd B n p == 6) := by rw [sRd, if_neg (fun q => q eF), if_neg (fun q => q nF), if_pos hg]
      rw [eD]
      refine key.imp ?_
      rintro r h' ⟨c1x, G, c2x, c3x, c4x, c5x⟩
      exact ⟨c1x, G, c2x, c3x, fun e => ⟨(c4x e).1, (c4x e).2.1, fun _ => (c4x e).2.2 (by omega)⟩, (a3x.tr (SF.of b2x).sg).tr c5x⟩
    · rw [yn_f hg]
      refine e_iload rfl rfl ?_
      refine e_ifeq_t rfl rfl ?_
      refine e_aload rfl rfl ?_
      refine e_getR rfl hA.1 hA.2.1 ?_
      refine e_getIv rfl hT.1 b1x.2.2.1 ?_
      by_cases eF : sCF B n i p u st = 0
      · obtain ⟨e1x, e2x, e3x⟩ := a2x eF
        rw [eF, e1x] at hg
        rw [eF, e1x]
        have k7x : ¬ sKd B n p = 7 := fun q => by unfold sCF at eF; rw [if_pos q] at eF; exact fl_ne (by omega) eF
        have kk7x : sKd B n p < 7 := (sKd_get (fun q => k7x (sKd_7.mpr q))).2
        have nb : ¬ sBad u st i (sKd B n p) = true := fun q => by unfold sCF at eF; rw [if_neg k7x, if_pos q] at eF; exact fl_ne (by omega) eF
        have nb2x := fun x => nb (decide_eq_true x)
        have io : i = 0 ↔ sKd B n p = 0 := Decidable.byContradiction (fun q => nb2x (Or.inr (Or.inl q)))
        have eP : sPF B n u (sKd B n p) (nxt B n p) = 0 := by unfold sCF at eF; rw [if_neg k7x, if_neg nb] at eF; exact eF
        have wf := sPU_wf (st := st) hw (nxt_le hpn).2.1 hn kk7x (fun q => nb2x (Or.inr (Or.inr q))) (fun q => h2x (fun e => q (io.mp e))) (fun q => h0x (io.mpr q)) eP
        have v2x : SeaS K s (sPU B n u (sKd B n p) (nxt B n p)) := e2x.fr (fun i k q1x q2x => b2x i k (by omega))
        by_cases nF : goF B n (sPP B n u (sKd B n p) (nxt B n p)) 0 = 0
        · have eD : sRd B n (k + 1) i p u st = (0, sPU B n u (sKd B n p) (nxt B n p)) := by rw [sRd, if_neg (fun q => q eF), if_neg (fun q => q nF), if_neg hg]
          rw [nF, eD]
          exact Eg.ret rfl (by decide) rfl ⟨rfl, K, rfl, b1x.1, fun _ => ⟨v2x, wf.1, fun _ => wf.2⟩, a3x.tr (SF.of b2x).sg⟩
        · have eD : sRd B n (k + 1) i p u st = (goF B n (sPP B n u (sKd B n p) (nxt B n p)) 0, u) := by rw [sRd, if_neg (fun q => q eF), if_pos nF]
          rw [eD]
          exact Eg.ret rfl (by decide) rfl ⟨rfl, K, rfl, b1x.1, fun e => absurd e nF, a3x.tr (SF.of b2x).sg⟩
      · have eD : sRd B n (k + 1) i p u st = (sCF B n i p u st, u) := by rw [sRd, if_pos eF]
        have eG : goF B n p' (sCF B n i p u st) = sCF B n i p u st := if_neg (fun q => eF q.1)
        rw [eD, eG]
        exact Eg.ret rfl (by decide) rfl ⟨rfl, K, rfl, b1x.1, fun e => absurd e eF, a3x.tr (SF.of b2x).sg⟩
end CT3x
