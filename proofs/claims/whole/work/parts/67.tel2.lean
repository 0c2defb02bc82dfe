/-! TOLD: the calls, both sides -/
section TF
variable {X : xX} {h : xH} {sh : List (Nat × Nat)} {I : Nat → Nat → Int32} {L : Nat → Nat → Int64} {R : Nat → Nat → Option Nat} {v : Nat → Nat → Int32} {w s m : Nat}
def aTel (x : Int32) (g : Bool) (n : Nat) : Int32 := if x = -1 then 0 else if g then nI (n + 1) else -2
def vTel (x : Int32) (g : Bool) (v0x v1x v : Nat → Nat → Int32) : Nat → Nat → Int32 := if x = -1 then v0x else if g then v1x else v
theorem aTel_z {x : Int32} {g : Bool} {n : Nat} (h : x = -1) : aTel x g n = 0 := if_pos h
theorem aTel_y {x : Int32} {g : Bool} {n : Nat} (h : ¬ x = -1) (hg : g = true) : aTel x g n = nI (n + 1) := by unfold aTel; rw [if_neg h, if_pos hg]
theorem aTel_n {x : Int32} {g : Bool} {n : Nat} (h : ¬ x = -1) (hg : g = false) : aTel x g n = -2 := by unfold aTel; rw [if_neg h, hg]; rfl
theorem vTel_z {x : Int32} {g : Bool} {v0x v1x : Nat → Nat → Int32} (h : x = -1) : vTel x g v0x v1x v = v0x := if_pos h
theorem vTel_y {x : Int32} {g : Bool} {v0x v1x : Nat → Nat → Int32} (h : ¬ x = -1) (hg : g = true) : vTel x g v0x v1x v = v1x := by unfold vTel; rw [if_neg h, if_pos hg]
theorem vTel_n {x : Int32} {g : Bool} {v0x v1x : Nat → Nat → Int32} (h : ¬ x = -1) (hg : g = false) : vTel x g v0x v1x v = v := by unfold vTel; rw [if_neg h, hg]; rfl
def TMA (sh : List (Nat × Nat)) (I : Nat → Nat → Int32) (L : Nat → Nat → Int64) (R : Nat → Nat → Option Nat) (v : Nat → Nat → Int32) (h' : xH) : Prop := ∃ J : Nat → Nat → Int32, h' = (sh, J, L, R) ∧ mV J v ∧ ∀ i x, i < 291 ∨ 321 < i ∨ i = 309 → J i x = I i x
theorem xu_xu {V : Nat → Nat → Int32} {f i : Nat} {x y : Int32} : xu (xu V f i x) f i y = xu V f i y := by
  funext a b
  by_cases e : a = f ∧ b = i
  · obtain ⟨rfl, rfl⟩ := e; rw [xu_at, xu_at]
  · rw [xu_o (by omega), xu_o (by omega), xu_o (by omega)]
def gSight (v : Nat → Nat → Int32) (x : Int32) : Bool := decide (¬ cn v 0 = 0 ∧ ¬ (x < 0 ∨ 9999 < x) ∧ cn v 10 < 10)
def gTold (v : Nat → Nat → Int32) (x y z : Int32) : Bool := decide (¬ (x < 0 ∨ nI (cn v 0) ≤ x) ∧ ¬ (y < 0 ∨ 9999 < y) ∧ ¬ (z < 0 ∨ 99 < z) ∧ cn v 11 < 10)
def gFleet (v : Nat → Nat → Int32) (x y z : Int32) : Bool := decide (¬ cn v 0 = 0 ∧ cn v 12 < 6 ∧ ¬ (x < 1 ∨ 99 < x) ∧ ¬ (y < 0 ∨ 99 < y) ∧ ¬ (z < 0 ∨ 99 < z))
def vSight (v : Nat → Nat → Int32) (x y : Int32) : Nat → Nat → Int32 := vTel x (gSight v x) (zerF v 10) (telF v 10 24 25 25 x y y) v
def vTold (v : Nat → Nat → Int32) (x y z : Int32) : Nat → Nat → Int32 := vTel x (gTold v x y z) (zerF v 11) (telF v 11 26 27 28 x y z) v
def vFleet (v : Nat → Nat → Int32) (x y z : Int32) : Nat → Nat → Int32 := vTel x (gFleet v x y z) (zerF v 12) (telF v 12 29 30 31 x y z) v
theorem cf_sight (hq : CQ sh I R w m s v) (hWA : WorldAt sh R w) (hWV : WorV I w v) {x y : Int32} (hy : y = 0 ∨ y = 1) : Ec X 2 159 [.ref 0, .int x, .int y] (sh, I, L, R) (fun r h' => r = some (.int (aTel x (gSight v x) (cn v 10))) ∧ TACT sh I L R w (vSight v x y) h') := by
  obtain ⟨h0x, r7x, hWd, rm0x, hM, hms, hS, hV, hU, hw, hW⟩ := hq
  have hb := hw.1.2
  refine Ec.of (Nat.le_of_ble_eq_true rfl) ?_
  refine e_iload rfl rfl ?_
  refine e_ipush rfl ?_
  refine e_cne_b rfl (fun b2x => ?_) (fun b2x => ?_)
  · refine e_aload rfl rfl ?_
    refine e_getR rfl h0x r7x ?_
    refine e_getR rfl hWA.1 rm0x ?_
    refine e_getR rfl hM.1 hms ?_
    refine Eg.p1 rfl (by decide) (by decide) rfl (Nat.le_of_ble_eq_true rfl) (xrcv_of rfl hS.1 rfl) ((cs_isThereV hS hV hw).mono (by decide)) ?_
    refine e_ifeq_b rfl (fun b28x => ?_) (fun b28x => ?_)
    · replace b28x := yn_0.mp b28x
      refine e_ipush rfl ?_
      have gn : gSight v x = false := decide_eq_false (fun q => b28x q.1)
      exact Eg.ret rfl (by decide) rfl ⟨congrArg (fun z => some (Value.int z)) (aTel_n b2x gn).symm, I, rfl, by unfold vSight; rw [vTel_n b2x gn]; exact hWV, fun i k hi => rfl⟩
    · replace b28x := yn_n0.mp b28x
      refine e_iload rfl rfl ?_
      refine Eg.p1 rfl (by decide) (by decide) rfl (Nat.le_of_ble_eq_true rfl) (xrcv_ofs (Or.inl rfl)) (cs_isDayY.mono (by decide)) ?_
      refine e_ifeq_b rfl (fun b35x => ?_) (fun b35x => ?_)
      · replace b35x := yn_0.mp b35x
        refine e_ipush rfl ?_
        have gn : gSight v x = false := decide_eq_false (fun q => b35x q.2.1)
        exact Eg.ret rfl (by decide) rfl ⟨congrArg (fun z => some (Value.int z)) (aTel_n b2x gn).symm, I, rfl, by unfold vSight; rw [vTel_n b2x gn]; exact hWV, fun i k hi => rfl⟩
      · replace b35x := yn_n0.mp b35x
        refine e_aload rfl rfl ?_
        refine e_getR rfl h0x r7x ?_
        refine e_getIv rfl hWA.1 hWV.1 ?_
        refine e_ipush rfl ?_
        refine e_clt_b rfl (fun b47x => ?_) (fun b47x => ?_)
        · have gg : gSight v x = true := decide_eq_true ⟨b28x, b35x, (nI_lti (a := cn v 10) (b := 10) (by omega) (by decide)).mp b47x⟩
          refine e_aload rfl rfl ?_
          refine e_getR rfl h0x r7x ?_
          refine e_iload rfl rfl ?_
          refine e_iload rfl rfl ?_
          refine Eg.c3 rfl (by decide) (by decide) rfl (Nat.le_of_ble_eq_true rfl) (xrcv_of rfl hWA.1 rfl) ((cs_addSight hWA hWV (x := x) (y := y) (by have := (nI_lti (a := cn v 10) (b := 10) (by omega) (by decide)).mp b47x; omega) hy).mono (by decide)) (fun r1x h1x hq => ?_)
          obtain ⟨rfl, I1x, rfl, hT, hc, fr⟩ := hq
          refine e_aload rfl rfl ?_
          refine e_getR rfl h0x r7x ?_
          refine e_getIv rfl hWA.1 hc ?_
          exact Eg.ret rfl (by decide) rfl ⟨congrArg (fun z => some (Value.int z)) (aTel_y b2x gg).symm, I1x, rfl, by unfold vSight; rw [vTel_y b2x gg]; exact hT, fr⟩
        · refine e_ipush rfl ?_
          have gn : gSight v x = false := decide_eq_false (fun q => b47x ((nI_lti (a := cn v 10) (b := 10) (by omega) (by decide)).mpr q.2.2))
          exact Eg.ret rfl (by decide) rfl ⟨congrArg (fun z => some (Value.int z)) (aTel_n b2x gn).symm, I, rfl, by unfold vSight; rw [vTel_n b2x gn]; exact hWV, fun i k hi => rfl⟩
  · refine e_aload rfl rfl ?_
    refine e_getR rfl h0x r7x ?_
    refine e_ipush rfl ?_
    refine e_putIJ rfl hWA.1 (fun J1x g1x f1x => ?_)
    refine e_ipush rfl ?_
    exact Eg.ret rfl (by decide) rfl ⟨congrArg (fun z => some (Value.int z)) (aTel_z b2x).symm, J1x, rfl, by unfold vSight; rw [vTel_z b2x]; exact hWV.zer (Or.inl rfl) (fun _ => g1x) (fun h => absurd h (by decide)) (fun h => absurd h (by decide)) (fun p t h1x h2x h3x => f1x p t (by omega)), fun i k hi => f1x i k (by omega)⟩
theorem cf_told (hq : CQ sh I R w m s v) (hWA : WorldAt sh R w) (hWV : WorV I w v) {x y z : Int32} : Ec X 2 163 [.ref 0, .int x, .int y, .int z] (sh, I, L, R) (fun r h' => r = some (.int (aTel x (gTold v x y z) (cn v 11))) ∧ TACT sh I L R w (vTold v x y z) h') := by
  obtain ⟨h0x, r7x, hWd, rm0x, hM, hms, hS, hV, hU, hw, hW⟩ := hq
  have hb := hw.1.2
  refine Ec.of (Nat.le_of_ble_eq_true rfl) ?_
  refine e_iload rfl rfl ?_
  refine e_ipush rfl ?_
  refine e_cne_b rfl (fun b2x => ?_) (fun b2x => ?_)
  · refine e_aload rfl rfl ?_
    refine e_getR rfl h0x r7x ?_
    refine e_getR rfl hWA.1 rm0x ?_
    refine e_getR rfl hM.1 hms ?_
    refine e_iload rfl rfl ?_
    refine Eg.p2 rfl (by decide) (by decide) rfl (Nat.le_of_ble_eq_true rfl) (xrcv_of rfl hS.1 rfl) ((cs_hasCellV hS hV).mono (by decide)) ?_
    refine e_ifeq_b rfl (fun b29x => ?_) (fun b29x => ?_)
    · replace b29x := yn_0.mp b29x
      refine e_ipush rfl ?_
      have gn : gTold v x y z = false := decide_eq_false (fun q => b29x q.1)
      exact Eg.ret rfl (by decide) rfl ⟨congrArg (fun z => some (Value.int z)) (aTel_n b2x gn).symm, I, rfl, by unfold vTold; rw [vTel_n b2x gn]; exact hWV, fun i k hi => rfl⟩
    · replace b29x := yn_n0.mp b29x
      refine e_iload rfl rfl ?_
      refine Eg.p1 rfl (by decide) (by decide) rfl (Nat.le_of_ble_eq_true rfl) (xrcv_ofs (Or.inl rfl)) (cs_isDayY.mono (by decide)) ?_
      refine e_ifeq_b rfl (fun b36x => ?_) (fun b36x => ?_)
      · replace b36x := yn_0.mp b36x
        refine e_ipush rfl ?_
        have gn : gTold v x y z = false := decide_eq_false (fun q => b36x q.2.1)
        exact Eg.ret rfl (by decide) rfl ⟨congrArg (fun z => some (Value.int z)) (aTel_n b2x gn).symm, I, rfl, by unfold vTold; rw [vTel_n b2x gn]; exact hWV, fun i k hi => rfl⟩
      · replace b36x := yn_n0.mp b36x
        refine e_iload rfl rfl ?_
        refine e_ipush rfl ?_
        refine e_ipush rfl ?_
        refine Eg.p3 rfl (by decide) (by decide) rfl (Nat.le_of_ble_eq_true rfl) (xrcv_ofs (Or.inl rfl)) (cs_withinY.mono (by decide)) ?_
        refine e_ifeq_b rfl (fun b46x => ?_) (fun b46x => ?_)
        · replace b46x := yn_0.mp b46x
          refine e_ipush rfl ?_
          have gn : gTold v x y z = false := decide_eq_false (fun q => b46x q.2.2.1)
          exact Eg.ret rfl (by decide) rfl ⟨congrArg (fun z => some (Value.int z)) (aTel_n b2x gn).symm, I, rfl, by unfold vTold; rw [vTel_n b2x gn]; exact hWV, fun i k hi => rfl⟩
        · replace b46x := yn_n0.mp b46x
          refine e_aload rfl rfl ?_
          refine e_getR rfl h0x r7x ?_
          refine e_getIv rfl hWA.1 hWV.2.2.1 ?_
          refine e_ipush rfl ?_
          refine e_clt_b rfl (fun b58x => ?_) (fun b58x => ?_)
          · have gg : gTold v x y z = true := decide_eq_true ⟨b29x, b36x, b46x, (nI_lti (a := cn v 11) (b := 10) (by omega) (by decide)).mp b58x⟩
            refine e_aload rfl rfl ?_
            refine e_getR rfl h0x r7x ?_
            refine e_iload rfl rfl ?_
            refine e_iload rfl rfl ?_
            refine e_iload rfl rfl ?_
            refine Eg.c4 rfl (by decide) (by decide) rfl (Nat.le_of_ble_eq_true rfl) (xrcv_of rfl hWA.1 rfl) ((cs_addHeight hWA hWV (x := x) (y := y) (z := z) (by have := (nI_lti (a := cn v 11) (b := 10) (by omega) (by decide)).mp b58x; omega)).mono (by decide)) (fun r1x h1x hq => ?_)
            obtain ⟨rfl, I1x, rfl, hT, hc, fr⟩ := hq
            refine e_aload rfl rfl ?_
            refine e_getR rfl h0x r7x ?_
            refine e_getIv rfl hWA.1 hc ?_
            exact Eg.ret rfl (by decide) rfl ⟨congrArg (fun z => some (Value.int z)) (aTel_y b2x gg).symm, I1x, rfl, by unfold vTold; rw [vTel_y b2x gg]; exact hT, fr⟩
          · refine e_ipush rfl ?_
            have gn : gTold v x y z = false := decide_eq_false (fun q => b58x ((nI_lti (a := cn v 11) (b := 10) (by omega) (by decide)).mpr q.2.2.2))
            exact Eg.ret rfl (by decide) rfl ⟨congrArg (fun z => some (Value.int z)) (aTel_n b2x gn).symm, I, rfl, by unfold vTold; rw [vTel_n b2x gn]; exact hWV, fun i k hi => rfl⟩
  · refine e_aload rfl rfl ?_
    refine e_getR rfl h0x r7x ?_
    refine e_ipush rfl ?_
    refine e_putIJ rfl hWA.1 (fun J1x g1x f1x => ?_)
    refine e_ipush rfl ?_
    exact Eg.ret rfl (by decide) rfl ⟨congrArg (fun z => some (Value.int z)) (aTel_z b2x).symm, J1x, rfl, by unfold vTold; rw [vTel_z b2x]; exact hWV.zer (Or.inr (Or.inl rfl)) (fun h => absurd h (by decide)) (fun _ => g1x) (fun h => absurd h (by decide)) (fun p t h1x h2x h3x => f1x p t (by omega)), fun i k hi => f1x i k (by omega)⟩
theorem cf_fleet (hq : CQ sh I R w m s v) (hWA : WorldAt sh R w) (hWV : WorV I w v) {x y z : Int32} : Ec X 2 166 [.ref 0, .int x, .int y, .int z] (sh, I, L, R) (fun r h' => r = some (.int (aTel x (gFleet v x y z) (cn v 12))) ∧ TACT sh I L R w (vFleet v x y z) h') := by
  obtain ⟨h0x, r7x, hWd, rm0x, hM, hms, hS, hV, hU, hw, hW⟩ := hq
  have hb := hw.1.2
  refine Ec.of (Nat.le_of_ble_eq_true rfl) ?_
  refine e_aload rfl rfl ?_
  refine e_getR rfl h0x r7x ?_
  refine e_getR rfl hWA.1 hWA.2.2.2.2.2.2.2.2.1.2 ?_
  refine e_astore rfl ?_
  refine e_iload rfl rfl ?_
  refine e_ipush rfl ?_
  refine e_cne_b rfl (fun b11x => ?_) (fun b11x => ?_)
  · refine e_aload rfl rfl ?_
    refine e_getR rfl h0x r7x ?_
    refine e_getR rfl hWA.1 rm0x ?_
    refine e_getR rfl hM.1 hms ?_
    refine Eg.p1 rfl (by decide) (by decide) rfl (Nat.le_of_ble_eq_true rfl) (xrcv_of rfl hS.1 rfl) ((cs_isThereV hS hV hw).mono (by decide)) ?_
    refine e_ifeq_b rfl (fun b35x => ?_) (fun b35x => ?_)
    · replace b35x := yn_0.mp b35x
      refine e_ipush rfl ?_
      have gn : gFleet v x y z = false := decide_eq_false (fun q => b35x q.1)
      exact Eg.ret rfl (by decide) rfl ⟨congrArg (fun z => some (Value.int z)) (aTel_n b11x gn).symm, I, rfl, by unfold vFleet; rw [vTel_n b11x gn]; exact hWV, fun i k hi => rfl⟩
    · replace b35x := yn_n0.mp b35x
      refine e_aload rfl rfl ?_
      refine e_getIv rfl hWA.2.2.2.2.2.2.2.2.1.1 hWV.2.2.2.2.1 ?_
      refine e_ipush rfl ?_
      refine e_clt_b rfl (fun b45x => ?_) (fun b45x => ?_)
      · refine e_iload rfl rfl ?_
        refine e_ipush rfl ?_
        refine e_ipush rfl ?_
        refine Eg.p3 rfl (by decide) (by decide) rfl (Nat.le_of_ble_eq_true rfl) (xrcv_ofs (Or.inl rfl)) (cs_withinY.mono (by decide)) ?_
        refine e_ifeq_b rfl (fun b58x => ?_) (fun b58x => ?_)
        · replace b58x := yn_0.mp b58x
          refine e_ipush rfl ?_
          have gn : gFleet v x y z = false := decide_eq_false (fun q => b58x q.2.2.1)
          exact Eg.ret rfl (by decide) rfl ⟨congrArg (fun z => some (Value.int z)) (aTel_n b11x gn).symm, I, rfl, by unfold vFleet; rw [vTel_n b11x gn]; exact hWV, fun i k hi => rfl⟩
        · replace b58x := yn_n0.mp b58x
          refine e_iload rfl rfl ?_
          refine e_ipush rfl ?_
          refine e_ipush rfl ?_
          refine Eg.p3 rfl (by decide) (by decide) rfl (Nat.le_of_ble_eq_true rfl) (xrcv_ofs (Or.inl rfl)) (cs_withinY.mono (by decide)) ?_
          refine e_ifeq_b rfl (fun b68x => ?_) (fun b68x => ?_)
          · replace b68x := yn_0.mp b68x
            refine e_ipush rfl ?_
            have gn : gFleet v x y z = false := decide_eq_false (fun q => b68x q.2.2.2.1)
            exact Eg.ret rfl (by decide) rfl ⟨congrArg (fun z => some (Value.int z)) (aTel_n b11x gn).symm, I, rfl, by unfold vFleet; rw [vTel_n b11x gn]; exact hWV, fun i k hi => rfl⟩
          · replace b68x := yn_n0.mp b68x
            refine e_iload rfl rfl ?_
            refine e_ipush rfl ?_
            refine e_ipush rfl ?_
            refine Eg.p3 rfl (by decide) (by decide) rfl (Nat.le_of_ble_eq_true rfl) (xrcv_ofs (Or.inl rfl)) (cs_withinY.mono (by decide)) ?_
            refine e_ifne_b rfl (fun b78x => ?_) (fun b78x => ?_)
            · replace b78x := yn_n0.mp b78x
              have gg : gFleet v x y z = true := decide_eq_true ⟨b35x, (nI_lti (a := cn v 12) (b := 6) (by omega) (by decide)).mp b45x, b58x, b68x, b78x⟩
              refine e_aload rfl rfl ?_
              refine e_iload rfl rfl ?_
              refine e_iload rfl rfl ?_
              refine e_iload rfl rfl ?_
              refine Eg.c4 rfl (by decide) (by decide) rfl (Nat.le_of_ble_eq_true rfl) (xrcv_of rfl hWA.2.2.2.2.2.2.2.2.1.1 rfl) ((cs_addFleet hWA hWV (x := x) (y := y) (z := z) ((nI_lti (a := cn v 12) (b := 6) (by omega) (by decide)).mp b45x)).mono (by decide)) (fun r1x h1x hq => ?_)
              obtain ⟨rfl, I1x, rfl, hT, hc, fr⟩ := hq
              refine e_aload rfl rfl ?_
              refine e_getIv rfl hWA.2.2.2.2.2.2.2.2.1.1 hc ?_
              exact Eg.ret rfl (by decide) rfl ⟨congrArg (fun z => some (Value.int z)) (aTel_y b11x gg).symm, I1x, rfl, by unfold vFleet; rw [vTel_y b11x gg]; exact hT, fr⟩
            · replace b78x := yn_0.mp b78x
              refine e_ipush rfl ?_
              have gn : gFleet v x y z = false := decide_eq_false (fun q => b78x q.2.2.2.2)
              exact Eg.ret rfl (by decide) rfl ⟨congrArg (fun z => some (Value.int z)) (aTel_n b11x gn).symm, I, rfl, by unfold vFleet; rw [vTel_n b11x gn]; exact hWV, fun i k hi => rfl⟩
      · refine e_ipush rfl ?_
        have gn : gFleet v x y z = false := decide_eq_false (fun q => b45x ((nI_lti (a := cn v 12) (b := 6) (by omega) (by decide)).mpr q.2.1))
        exact Eg.ret rfl (by decide) rfl ⟨congrArg (fun z => some (Value.int z)) (aTel_n b11x gn).symm, I, rfl, by unfold vFleet; rw [vTel_n b11x gn]; exact hWV, fun i k hi => rfl⟩
  · refine e_aload rfl rfl ?_
    refine e_ipush rfl ?_
    refine e_putIJ rfl hWA.2.2.2.2.2.2.2.2.1.1 (fun J1x g1x f1x => ?_)
    refine e_ipush rfl ?_
    exact Eg.ret rfl (by decide) rfl ⟨congrArg (fun z => some (Value.int z)) (aTel_z b11x).symm, J1x, rfl, by unfold vFleet; rw [vTel_z b11x]; exact hWV.zer (Or.inr (Or.inr rfl)) (fun h => absurd h (by decide)) (fun h => absurd h (by decide)) (fun _ => g1x) (fun p t h1x h2x h3x => f1x p t (by omega)), fun i k hi => f1x i k (by omega)⟩
theorem md_sight (hM : MW sh R) (hv : mV I v) (hw : Wf v) {x y : Int32} (hy : y = 0 ∨ y = 1) : Ec X 3 285 [.ref 290, .int x, .int y] (sh, I, L, R) (fun r h' => r = some (.int (aTel x (gSight v x) (cn v 10))) ∧ TMA sh I L R (vSight v x y) h') := by
  have hb := hw.1.2
  refine Ec.of (Nat.le_of_ble_eq_true rfl) ?_
  refine e_iload rfl rfl ?_
  refine e_ipush rfl ?_
  refine e_cne_b rfl (fun b2x => ?_) (fun b2x => ?_)
  · refine e_aload rfl rfl ?_
    refine e_getR rfl hM.1 (show R 290 1 = some 291 from (hM.2 0 _ rfl).2) ?_
    refine e_ipush rfl ?_
    refine e_ialv (t := 10) (n := 14) rfl (show sh[291]? = some (20, 14) from (hM.2 0 _ rfl).1) rfl (by decide) (by decide) (hv.n hw (j := 10) (by decide)) ?_
    refine e_istore rfl ?_
    refine e_aload rfl rfl ?_
    refine Eg.p1 rfl (by decide) (by decide) rfl (Nat.le_of_ble_eq_true rfl) (xrcv_of rfl hM.1 rfl) ((ms_isSeaV hM hv hw).mono (by decide)) ?_
    refine e_ifeq_b rfl (fun b27x => ?_) (fun b27x => ?_)
    · replace b27x := yn_0.mp b27x
      refine e_ipush rfl ?_
      have gn : gSight v x = false := decide_eq_false (fun q => b27x q.1)
      exact Eg.ret rfl (by decide) rfl ⟨congrArg (fun z => some (Value.int z)) (aTel_n b2x gn).symm, I, rfl, by unfold vSight; rw [vTel_n b2x gn]; exact hv, fun i x hi => rfl⟩
    · replace b27x := yn_n0.mp b27x
      refine e_iload rfl rfl ?_
      refine Eg.p1 rfl (by decide) (by decide) rfl (Nat.le_of_ble_eq_true rfl) (xrcv_ofs (Or.inl rfl)) (ms_isDay.mono (by decide)) ?_
      refine e_ifeq_b rfl (fun b34x => ?_) (fun b34x => ?_)
      · replace b34x := yn_0.mp b34x
        refine e_ipush rfl ?_
        have gn : gSight v x = false := decide_eq_false (fun q => b34x q.2.1)
        exact Eg.ret rfl (by decide) rfl ⟨congrArg (fun z => some (Value.int z)) (aTel_n b2x gn).symm, I, rfl, by unfold vSight; rw [vTel_n b2x gn]; exact hv, fun i x hi => rfl⟩
      · replace b34x := yn_n0.mp b34x
        refine e_iload rfl rfl ?_
        refine e_ipush rfl ?_
        refine e_cne_b rfl (fun b40x => ?_) (fun b40x => ?_)
        · have hlt : cn v 10 < 10 := Nat.lt_of_le_of_ne (by omega) (fun q => b40x (by rw [q]; rfl))
          have gg : gSight v x = true := decide_eq_true ⟨b27x, b34x, hlt⟩
          refine e_aload rfl rfl ?_
          refine e_getR rfl hM.1 (show R 290 24 = some 314 from (hM.2 23 _ rfl).2) ?_
          refine e_iload rfl rfl ?_
          refine e_iload rfl rfl ?_
          refine e_iasJ (t := cn v 10) (n := 10) rfl (show sh[314]? = some (20, 10) from (hM.2 23 _ rfl).1) rfl (by omega) (by decide) (fun J1x g1x f1x => ?_)
          refine e_aload rfl rfl ?_
          refine e_getR rfl hM.1 (show R 290 25 = some 315 from (hM.2 24 _ rfl).2) ?_
          refine e_iload rfl rfl ?_
          refine e_iload rfl rfl ?_
          refine e_ifeq_b rfl (fun b59x => ?_) (fun b59x => ?_)
          · refine e_ipush rfl ?_
            refine e_iasJ (t := cn v 10) (n := 10) rfl (show sh[315]? = some (20, 10) from (hM.2 24 _ rfl).1) rfl (by omega) (by decide) (fun J2x g2x f2x => ?_)
            replace g2x := g2x.trans b59x.symm
            refine e_aload rfl rfl ?_
            refine e_getR rfl hM.1 (show R 290 1 = some 291 from (hM.2 0 _ rfl).2) ?_
            refine e_ipush rfl ?_
            refine e_dup2 rfl ?_
            refine e_ialv (t := 10) (n := 14) rfl (show sh[291]? = some (20, 14) from (hM.2 0 _ rfl).1) rfl (by decide) (by decide) ((f2x 291 10 (Or.inl (by omega))).trans ((f1x 291 10 (Or.inl (by omega))).trans (hv.n hw (j := 10) (by decide)))) ?_
            refine e_ipush rfl ?_
            refine e_iadd rfl ?_
            rw [show (nI (cn v 10)) + 1 = nI (cn v 10 + 1) from nI_1 _]
            refine e_iasJ (t := 10) (n := 14) rfl (show sh[291]? = some (20, 14) from (hM.2 0 _ rfl).1) rfl (by decide) (by decide) (fun J3x g3x f3x => ?_)
            refine e_iload rfl rfl ?_
            refine e_ipush rfl ?_
            refine e_iadd rfl ?_
            rw [show (nI (cn v 10)) + 1 = nI (cn v 10 + 1) from nI_1 _]
            exact Eg.ret rfl (by decide) rfl ⟨congrArg (fun z => some (Value.int z)) (aTel_y b2x gg).symm, J3x, rfl, by unfold vSight; rw [vTel_y b2x gg]; unfold telF; rw [xu_xu]; exact (((hv.up (f := 24) (by decide) g1x f1x).up (f := 25) (by decide) g2x f2x).up (f := 1) (by decide) g3x f3x), fun i x hi => ((f3x i x (by omega)).trans ((f2x i x (by omega)).trans (f1x i x (by omega))))⟩
          · refine e_ipush rfl ?_
            refine e_goto rfl ?_
            refine e_iasJ (t := cn v 10) (n := 10) rfl (show sh[315]? = some (20, 10) from (hM.2 24 _ rfl).1) rfl (by omega) (by decide) (fun J4x g4x f4x => ?_)
            replace g4x := g4x.trans (hy.resolve_left b59x).symm
            refine e_aload rfl rfl ?_
            refine e_getR rfl hM.1 (show R 290 1 = some 291 from (hM.2 0 _ rfl).2) ?_
            refine e_ipush rfl ?_
            refine e_dup2 rfl ?_
            refine e_ialv (t := 10) (n := 14) rfl (show sh[291]? = some (20, 14) from (hM.2 0 _ rfl).1) rfl (by decide) (by decide) ((f4x 291 10 (Or.inl (by omega))).trans ((f1x 291 10 (Or.inl (by omega))).trans (hv.n hw (j := 10) (by decide)))) ?_
            refine e_ipush rfl ?_
            refine e_iadd rfl ?_
            rw [show (nI (cn v 10)) + 1 = nI (cn v 10 + 1) from nI_1 _]
            refine e_iasJ (t := 10) (n := 14) rfl (show sh[291]? = some (20, 14) from (hM.2 0 _ rfl).1) rfl (by decide) (by decide) (fun J5x g5x f5x => ?_)
            refine e_iload rfl rfl ?_
            refine e_ipush rfl ?_
            refine e_iadd rfl ?_
            rw [show (nI (cn v 10)) + 1 = nI (cn v 10 + 1) from nI_1 _]
            exact Eg.ret rfl (by decide) rfl ⟨congrArg (fun z => some (Value.int z)) (aTel_y b2x gg).symm, J5x, rfl, by unfold vSight; rw [vTel_y b2x gg]; unfold telF; rw [xu_xu]; exact (((hv.up (f := 24) (by decide) g1x f1x).up (f := 25) (by decide) g4x f4x).up (f := 1) (by decide) g5x f5x), fun i x hi => ((f5x i x (by omega)).trans ((f4x i x (by omega)).trans (f1x i x (by omega))))⟩
        · refine e_ipush rfl ?_
          have gn : gSight v x = false := decide_eq_false (fun q => absurd q.2.2 (by have := (nI_eq (a := cn v 10) (b := 10) (by omega) (by decide)).mp b40x; omega))
          exact Eg.ret rfl (by decide) rfl ⟨congrArg (fun z => some (Value.int z)) (aTel_n b2x gn).symm, I, rfl, by unfold vSight; rw [vTel_n b2x gn]; exact hv, fun i x hi => rfl⟩
  · refine e_aload rfl rfl ?_
    refine e_getR rfl hM.1 (show R 290 1 = some 291 from (hM.2 0 _ rfl).2) ?_
    refine e_ipush rfl ?_
    refine e_ipush rfl ?_
    refine e_iasJ (t := 10) (n := 14) rfl (show sh[291]? = some (20, 14) from (hM.2 0 _ rfl).1) rfl (by decide) (by decide) (fun J6x g6x f6x => ?_)
    refine e_ipush rfl ?_
    exact Eg.ret rfl (by decide) rfl ⟨congrArg (fun z => some (Value.int z)) (aTel_z b2x).symm, J6x, rfl, by unfold vSight; rw [vTel_z b2x]; exact hv.up (f := 1) (by decide) g6x f6x, fun i x hi => f6x i x (by omega)⟩
theorem md_told (hM : MW sh R) (hv : mV I v) (hw : Wf v) {x y z : Int32} : Ec X 3 292 [.ref 290, .int x, .int y, .int z] (sh, I, L, R) (fun r h' => r = some (.int (aTel x (gTold v x y z) (cn v 11))) ∧ TMA sh I L R (vTold v x y z) h') := by
  have hb := hw.1.2
  refine Ec.of (Nat.le_of_ble_eq_true rfl) ?_
  refine e_iload rfl rfl ?_
  refine e_ipush rfl ?_
  refine e_cne_b rfl (fun b2x => ?_) (fun b2x => ?_)
  · refine e_aload rfl rfl ?_
    refine e_getR rfl hM.1 (show R 290 1 = some 291 from (hM.2 0 _ rfl).2) ?_
    refine e_ipush rfl ?_
    refine e_ialv (t := 11) (n := 14) rfl (show sh[291]? = some (20, 14) from (hM.2 0 _ rfl).1) rfl (by decide) (by decide) (hv.n hw (j := 11) (by decide)) ?_
    refine e_istore rfl ?_
    refine e_aload rfl rfl ?_
    refine e_iload rfl rfl ?_
    refine Eg.p2 rfl (by decide) (by decide) rfl (Nat.le_of_ble_eq_true rfl) (xrcv_of rfl hM.1 rfl) ((ms_isCell hM hv hw).mono (by decide)) ?_
    refine e_ifeq_b rfl (fun b29x => ?_) (fun b29x => ?_)
    · replace b29x := yn_0.mp b29x
      refine e_ipush rfl ?_
      have gn : gTold v x y z = false := decide_eq_false (fun q => b29x q.1)
      exact Eg.ret rfl (by decide) rfl ⟨congrArg (fun z => some (Value.int z)) (aTel_n b2x gn).symm, I, rfl, by unfold vTold; rw [vTel_n b2x gn]; exact hv, fun i x hi => rfl⟩
    · replace b29x := yn_n0.mp b29x
      refine e_iload rfl rfl ?_
      refine Eg.p1 rfl (by decide) (by decide) rfl (Nat.le_of_ble_eq_true rfl) (xrcv_ofs (Or.inl rfl)) (ms_isDay.mono (by decide)) ?_
      refine e_ifeq_b rfl (fun b36x => ?_) (fun b36x => ?_)
      · replace b36x := yn_0.mp b36x
        refine e_ipush rfl ?_
        have gn : gTold v x y z = false := decide_eq_false (fun q => b36x q.2.1)
        exact Eg.ret rfl (by decide) rfl ⟨congrArg (fun z => some (Value.int z)) (aTel_n b2x gn).symm, I, rfl, by unfold vTold; rw [vTel_n b2x gn]; exact hv, fun i x hi => rfl⟩
      · replace b36x := yn_n0.mp b36x
        refine e_iload rfl rfl ?_
        refine e_i2l rfl ?_
        refine e_lpush rfl ?_
        refine e_lpush rfl ?_
        refine Eg.p3 rfl (by decide) (by decide) rfl (Nat.le_of_ble_eq_true rfl) (xrcv_ofs (Or.inl rfl)) ((ms_inv (x := z) (y := 0) (z := 99) rfl (by decide) (by decide)).mono (by decide)) ?_
        refine e_ifeq_b rfl (fun b48x => ?_) (fun b48x => ?_)
        · replace b48x := yn_0.mp b48x
          refine e_ipush rfl ?_
          have gn : gTold v x y z = false := decide_eq_false (fun q => b48x q.2.2.1)
          exact Eg.ret rfl (by decide) rfl ⟨congrArg (fun z => some (Value.int z)) (aTel_n b2x gn).symm, I, rfl, by unfold vTold; rw [vTel_n b2x gn]; exact hv, fun i x hi => rfl⟩
        · replace b48x := yn_n0.mp b48x
          refine e_iload rfl rfl ?_
          refine e_ipush rfl ?_
          refine e_cne_b rfl (fun b55x => ?_) (fun b55x => ?_)
          · have hlt : cn v 11 < 10 := Nat.lt_of_le_of_ne (by omega) (fun q => b55x (by rw [q]; rfl))
            have gg : gTold v x y z = true := decide_eq_true ⟨b29x, b36x, b48x, hlt⟩
            refine e_aload rfl rfl ?_
            refine e_getR rfl hM.1 (show R 290 26 = some 316 from (hM.2 25 _ rfl).2) ?_
            refine e_iload rfl rfl ?_
            refine e_iload rfl rfl ?_
            refine e_iasJ (t := cn v 11) (n := 10) rfl (show sh[316]? = some (20, 10) from (hM.2 25 _ rfl).1) rfl (by omega) (by decide) (fun J1x g1x f1x => ?_)
            refine e_aload rfl rfl ?_
            refine e_getR rfl hM.1 (show R 290 27 = some 317 from (hM.2 26 _ rfl).2) ?_
            refine e_iload rfl rfl ?_
            refine e_iload rfl rfl ?_
            refine e_iasJ (t := cn v 11) (n := 10) rfl (show sh[317]? = some (20, 10) from (hM.2 26 _ rfl).1) rfl (by omega) (by decide) (fun J2x g2x f2x => ?_)
            refine e_aload rfl rfl ?_
            refine e_getR rfl hM.1 (show R 290 28 = some 318 from (hM.2 27 _ rfl).2) ?_
            refine e_iload rfl rfl ?_
            refine e_iload rfl rfl ?_
            refine e_iasJ (t := cn v 11) (n := 10) rfl (show sh[318]? = some (20, 10) from (hM.2 27 _ rfl).1) rfl (by omega) (by decide) (fun J3x g3x f3x => ?_)
            refine e_aload rfl rfl ?_
            refine e_getR rfl hM.1 (show R 290 1 = some 291 from (hM.2 0 _ rfl).2) ?_
            refine e_ipush rfl ?_
            refine e_dup2 rfl ?_
            refine e_ialv (t := 11) (n := 14) rfl (show sh[291]? = some (20, 14) from (hM.2 0 _ rfl).1) rfl (by decide) (by decide) ((f3x 291 11 (Or.inl (by omega))).trans ((f2x 291 11 (Or.inl (by omega))).trans ((f1x 291 11 (Or.inl (by omega))).trans (hv.n hw (j := 11) (by decide))))) ?_
            refine e_ipush rfl ?_
            refine e_iadd rfl ?_
            rw [show (nI (cn v 11)) + 1 = nI (cn v 11 + 1) from nI_1 _]
            refine e_iasJ (t := 11) (n := 14) rfl (show sh[291]? = some (20, 14) from (hM.2 0 _ rfl).1) rfl (by decide) (by decide) (fun J4x g4x f4x => ?_)
            refine e_iload rfl rfl ?_
            refine e_ipush rfl ?_
            refine e_iadd rfl ?_
            rw [show (nI (cn v 11)) + 1 = nI (cn v 11 + 1) from nI_1 _]
            exact Eg.ret rfl (by decide) rfl ⟨congrArg (fun z => some (Value.int z)) (aTel_y b2x gg).symm, J4x, rfl, by unfold vTold; rw [vTel_y b2x gg]; unfold telF; exact ((((hv.up (f := 26) (by decide) g1x f1x).up (f := 27) (by decide) g2x f2x).up (f := 28) (by decide) g3x f3x).up (f := 1) (by decide) g4x f4x), fun i x hi => ((f4x i x (by omega)).trans ((f3x i x (by omega)).trans ((f2x i x (by omega)).trans (f1x i x (by omega)))))⟩
          · refine e_ipush rfl ?_
            have gn : gTold v x y z = false := decide_eq_false (fun q => absurd q.2.2.2 (by have := (nI_eq (a := cn v 11) (b := 10) (by omega) (by decide)).mp b55x; omega))
            exact Eg.ret rfl (by decide) rfl ⟨congrArg (fun z => some (Value.int z)) (aTel_n b2x gn).symm, I, rfl, by unfold vTold; rw [vTel_n b2x gn]; exact hv, fun i x hi => rfl⟩
  · refine e_aload rfl rfl ?_
    refine e_getR rfl hM.1 (show R 290 1 = some 291 from (hM.2 0 _ rfl).2) ?_
    refine e_ipush rfl ?_
    refine e_ipush rfl ?_
    refine e_iasJ (t := 11) (n := 14) rfl (show sh[291]? = some (20, 14) from (hM.2 0 _ rfl).1) rfl (by decide) (by decide) (fun J5x g5x f5x => ?_)
    refine e_ipush rfl ?_
    exact Eg.ret rfl (by decide) rfl ⟨congrArg (fun z => some (Value.int z)) (aTel_z b2x).symm, J5x, rfl, by unfold vTold; rw [vTel_z b2x]; exact hv.up (f := 1) (by decide) g5x f5x, fun i x hi => f5x i x (by omega)⟩
theorem md_fleet (hM : MW sh R) (hv : mV I v) (hw : Wf v) {x y z : Int32} : Ec X 3 296 [.ref 290, .int x, .int y, .int z] (sh, I, L, R) (fun r h' => r = some (.int (aTel x (gFleet v x y z) (cn v 12))) ∧ TMA sh I L R (vFleet v x y z) h') := by
  have hb := hw.1.2
  refine Ec.of (Nat.le_of_ble_eq_true rfl) ?_
  refine e_iload rfl rfl ?_
  refine e_ipush rfl ?_
  refine e_cne_b rfl (fun b2x => ?_) (fun b2x => ?_)
  · refine e_aload rfl rfl ?_
    refine e_getR rfl hM.1 (show R 290 1 = some 291 from (hM.2 0 _ rfl).2) ?_
    refine e_ipush rfl ?_
    refine e_ialv (t := 12) (n := 14) rfl (show sh[291]? = some (20, 14) from (hM.2 0 _ rfl).1) rfl (by decide) (by decide) (hv.n hw (j := 12) (by decide)) ?_
    refine e_istore rfl ?_
    refine e_aload rfl rfl ?_
    refine Eg.p1 rfl (by decide) (by decide) rfl (Nat.le_of_ble_eq_true rfl) (xrcv_of rfl hM.1 rfl) ((ms_isSeaV hM hv hw).mono (by decide)) ?_
    refine e_ifeq_b rfl (fun b28x => ?_) (fun b28x => ?_)
    · replace b28x := yn_0.mp b28x
      refine e_ipush rfl ?_
      have gn : gFleet v x y z = false := decide_eq_false (fun q => b28x q.1)
      exact Eg.ret rfl (by decide) rfl ⟨congrArg (fun z => some (Value.int z)) (aTel_n b2x gn).symm, I, rfl, by unfold vFleet; rw [vTel_n b2x gn]; exact hv, fun i x hi => rfl⟩
    · replace b28x := yn_n0.mp b28x
      refine e_iload rfl rfl ?_
      refine e_i2l rfl ?_
      refine e_lpush rfl ?_
      refine e_lpush rfl ?_
      refine Eg.p3 rfl (by decide) (by decide) rfl (Nat.le_of_ble_eq_true rfl) (xrcv_ofs (Or.inl rfl)) ((ms_inv (x := x) (y := 1) (z := 99) rfl (by decide) (by decide)).mono (by decide)) ?_
      refine e_ifeq_b rfl (fun b40x => ?_) (fun b40x => ?_)
      · replace b40x := yn_0.mp b40x
        refine e_ipush rfl ?_
        have gn : gFleet v x y z = false := decide_eq_false (fun q => b40x q.2.2.1)
        exact Eg.ret rfl (by decide) rfl ⟨congrArg (fun z => some (Value.int z)) (aTel_n b2x gn).symm, I, rfl, by unfold vFleet; rw [vTel_n b2x gn]; exact hv, fun i x hi => rfl⟩
      · replace b40x := yn_n0.mp b40x
        refine e_iload rfl rfl ?_
        refine e_i2l rfl ?_
        refine e_lpush rfl ?_
        refine e_lpush rfl ?_
        refine Eg.p3 rfl (by decide) (by decide) rfl (Nat.le_of_ble_eq_true rfl) (xrcv_ofs (Or.inl rfl)) ((ms_inv (x := y) (y := 0) (z := 99) rfl (by decide) (by decide)).mono (by decide)) ?_
        refine e_ifeq_b rfl (fun b52x => ?_) (fun b52x => ?_)
        · replace b52x := yn_0.mp b52x
          refine e_ipush rfl ?_
          have gn : gFleet v x y z = false := decide_eq_false (fun q => b52x q.2.2.2.1)
          exact Eg.ret rfl (by decide) rfl ⟨congrArg (fun z => some (Value.int z)) (aTel_n b2x gn).symm, I, rfl, by unfold vFleet; rw [vTel_n b2x gn]; exact hv, fun i x hi => rfl⟩
        · replace b52x := yn_n0.mp b52x
          refine e_iload rfl rfl ?_
          refine e_i2l rfl ?_
          refine e_lpush rfl ?_
          refine e_lpush rfl ?_
          refine Eg.p3 rfl (by decide) (by decide) rfl (Nat.le_of_ble_eq_true rfl) (xrcv_ofs (Or.inl rfl)) ((ms_inv (x := z) (y := 0) (z := 99) rfl (by decide) (by decide)).mono (by decide)) ?_
          refine e_ifeq_b rfl (fun b64x => ?_) (fun b64x => ?_)
          · replace b64x := yn_0.mp b64x
            refine e_ipush rfl ?_
            have gn : gFleet v x y z = false := decide_eq_false (fun q => b64x q.2.2.2.2)
            exact Eg.ret rfl (by decide) rfl ⟨congrArg (fun z => some (Value.int z)) (aTel_n b2x gn).symm, I, rfl, by unfold vFleet; rw [vTel_n b2x gn]; exact hv, fun i x hi => rfl⟩
          · replace b64x := yn_n0.mp b64x
            refine e_iload rfl rfl ?_
            refine e_ipush rfl ?_
            refine e_cne_b rfl (fun b71x => ?_) (fun b71x => ?_)
            · have hlt : cn v 12 < 6 := Nat.lt_of_le_of_ne (by omega) (fun q => b71x (by rw [q]; rfl))
              have gg : gFleet v x y z = true := decide_eq_true ⟨b28x, hlt, b40x, b52x, b64x⟩
              refine e_aload rfl rfl ?_
              refine e_getR rfl hM.1 (show R 290 29 = some 319 from (hM.2 28 _ rfl).2) ?_
              refine e_iload rfl rfl ?_
              refine e_iload rfl rfl ?_
              refine e_iasJ (t := cn v 12) (n := 6) rfl (show sh[319]? = some (20, 6) from (hM.2 28 _ rfl).1) rfl (by omega) (by decide) (fun J1x g1x f1x => ?_)
              refine e_aload rfl rfl ?_
              refine e_getR rfl hM.1 (show R 290 30 = some 320 from (hM.2 29 _ rfl).2) ?_
              refine e_iload rfl rfl ?_
              refine e_iload rfl rfl ?_
              refine e_iasJ (t := cn v 12) (n := 6) rfl (show sh[320]? = some (20, 6) from (hM.2 29 _ rfl).1) rfl (by omega) (by decide) (fun J2x g2x f2x => ?_)
              refine e_aload rfl rfl ?_
              refine e_getR rfl hM.1 (show R 290 31 = some 321 from (hM.2 30 _ rfl).2) ?_
              refine e_iload rfl rfl ?_
              refine e_iload rfl rfl ?_
              refine e_iasJ (t := cn v 12) (n := 6) rfl (show sh[321]? = some (20, 6) from (hM.2 30 _ rfl).1) rfl (by omega) (by decide) (fun J3x g3x f3x => ?_)
              refine e_aload rfl rfl ?_
              refine e_getR rfl hM.1 (show R 290 1 = some 291 from (hM.2 0 _ rfl).2) ?_
              refine e_ipush rfl ?_
              refine e_dup2 rfl ?_
              refine e_ialv (t := 12) (n := 14) rfl (show sh[291]? = some (20, 14) from (hM.2 0 _ rfl).1) rfl (by decide) (by decide) ((f3x 291 12 (Or.inl (by omega))).trans ((f2x 291 12 (Or.inl (by omega))).trans ((f1x 291 12 (Or.inl (by omega))).trans (hv.n hw (j := 12) (by decide))))) ?_
              refine e_ipush rfl ?_
              refine e_iadd rfl ?_
              rw [show (nI (cn v 12)) + 1 = nI (cn v 12 + 1) from nI_1 _]
              refine e_iasJ (t := 12) (n := 14) rfl (show sh[291]? = some (20, 14) from (hM.2 0 _ rfl).1) rfl (by decide) (by decide) (fun J4x g4x f4x => ?_)
              refine e_iload rfl rfl ?_
              refine e_ipush rfl ?_
              refine e_iadd rfl ?_
              rw [show (nI (cn v 12)) + 1 = nI (cn v 12 + 1) from nI_1 _]
              exact Eg.ret rfl (by decide) rfl ⟨congrArg (fun z => some (Value.int z)) (aTel_y b2x gg).symm, J4x, rfl, by unfold vFleet; rw [vTel_y b2x gg]; unfold telF; exact ((((hv.up (f := 29) (by decide) g1x f1x).up (f := 30) (by decide) g2x f2x).up (f := 31) (by decide) g3x f3x).up (f := 1) (by decide) g4x f4x), fun i x hi => ((f4x i x (by omega)).trans ((f3x i x (by omega)).trans ((f2x i x (by omega)).trans (f1x i x (by omega)))))⟩
            · refine e_ipush rfl ?_
              have gn : gFleet v x y z = false := decide_eq_false (fun q => absurd q.2.1 (by have := (nI_eq (a := cn v 12) (b := 6) (by omega) (by decide)).mp b71x; omega))
              exact Eg.ret rfl (by decide) rfl ⟨congrArg (fun z => some (Value.int z)) (aTel_n b2x gn).symm, I, rfl, by unfold vFleet; rw [vTel_n b2x gn]; exact hv, fun i x hi => rfl⟩
  · refine e_aload rfl rfl ?_
    refine e_getR rfl hM.1 (show R 290 1 = some 291 from (hM.2 0 _ rfl).2) ?_
    refine e_ipush rfl ?_
    refine e_ipush rfl ?_
    refine e_iasJ (t := 12) (n := 14) rfl (show sh[291]? = some (20, 14) from (hM.2 0 _ rfl).1) rfl (by decide) (by decide) (fun J5x g5x f5x => ?_)
    refine e_ipush rfl ?_
    exact Eg.ret rfl (by decide) rfl ⟨congrArg (fun z => some (Value.int z)) (aTel_z b2x).symm, J5x, rfl, by unfold vFleet; rw [vTel_z b2x]; exact hv.up (f := 1) (by decide) g5x f5x, fun i x hi => f5x i x (by omega)⟩
end TF
