/-! TOLD: the calls, both sides -/
section TF
variable {X : xX} {h : xH} {sh : List (Nat × Nat)} {I : Nat → Nat → Int32} {L : Nat → Nat → Int64} {R : Nat → Nat → Option Nat} {v : Nat → Nat → Int32} {w s m : Nat}
def aTel (x : Int32) (g : Bool) (n : Nat) : Int32 := if x = -1 then 0 else if g then nI (n + 1) else -2
def vTel (x : Int32) (g : Bool) (v0 v1 v : Nat → Nat → Int32) : Nat → Nat → Int32 := if x = -1 then v0 else if g then v1 else v
theorem aTel_z {x : Int32} {g : Bool} {n : Nat} (h : x = -1) : aTel x g n = 0 := if_pos h
theorem aTel_y {x : Int32} {g : Bool} {n : Nat} (h : ¬ x = -1) (hg : g = true) : aTel x g n = nI (n + 1) := by unfold aTel; rw [if_neg h, if_pos hg]
theorem aTel_n {x : Int32} {g : Bool} {n : Nat} (h : ¬ x = -1) (hg : g = false) : aTel x g n = -2 := by unfold aTel; rw [if_neg h, hg]; rfl
theorem vTel_z {x : Int32} {g : Bool} {v0 v1 : Nat → Nat → Int32} (h : x = -1) : vTel x g v0 v1 v = v0 := if_pos h
theorem vTel_y {x : Int32} {g : Bool} {v0 v1 : Nat → Nat → Int32} (h : ¬ x = -1) (hg : g = true) : vTel x g v0 v1 v = v1 := by unfold vTel; rw [if_neg h, if_pos hg]
theorem vTel_n {x : Int32} {g : Bool} {v0 v1 : Nat → Nat → Int32} (h : ¬ x = -1) (hg : g = false) : vTel x g v0 v1 v = v := by unfold vTel; rw [if_neg h, hg]; rfl
def TMA (sh : List (Nat × Nat)) (I : Nat → Nat → Int32) (L : Nat → Nat → Int64) (R : Nat → Nat → Option Nat) (v : Nat → Nat → Int32) (h' : xH) : Prop := ∃ J : Nat → Nat → Int32, h' = (sh, J, L, R) ∧ mV J v ∧ ∀ i x, i < 291 ∨ 321 < i ∨ i = 309 → J i x = I i x
theorem xu_xu {V : Nat → Nat → Int32} {f i : Nat} {x y : Int32} : xu (xu V f i x) f i y = xu V f i y := by
  funext a b
  by_cases e : a = f ∧ b = i
  · obtain ⟨rfl, rfl⟩ := e; rw [xu_at, xu_at]
  · rw [xu_o (by omega), xu_o (by omega), xu_o (by omega)]
def gSight (v : Nat → Nat → Int32) (x : Int32) : Bool := decide (¬ cn v 0 = 0 ∧ ¬ (x < 0 ∨ 9999 < x) ∧ cn v 10 < 10)
def gTold (v : Nat → Nat → Int32) (x y z : Int32) : Bool := decide (¬ (x < 0 ∨ nI (cn v 0) ≤ x) ∧ ¬ (y < 0 ∨ 9999 < y) ∧ ¬ (z < 0 ∨ 99 < z) ∧ cn v 11 < 10)
def gFleet (v : Nat → Nat → Int32) (x y z : Int32) : Bool := decide (¬ cn v 0 = 0 ∧ cn v 12 < 6 ∧ ¬ (x < 1 ∨ 99 < x) ∧ ¬ (y < 0 ∨ 99 < y) ∧ ¬ (z < 0 ∨ 99 < z))
def vSight (v : Nat → Nat → Int32) (x y : Int32) : Nat → Nat → Int32 := vTel x (gSight v x) (zerF v 10) (telF v 10 24 25 25 x y y) v
def vTold (v : Nat → Nat → Int32) (x y z : Int32) : Nat → Nat → Int32 := vTel x (gTold v x y z) (zerF v 11) (telF v 11 26 27 28 x y z) v
def vFleet (v : Nat → Nat → Int32) (x y z : Int32) : Nat → Nat → Int32 := vTel x (gFleet v x y z) (zerF v 12) (telF v 12 29 30 31 x y z) v
theorem cf_sight (hq : CQ sh I R w m s v) (hWA : WorldAt sh R w) (hWV : WorV I w v) {x y : Int32} (hy : y = 0 ∨ y = 1) : Ec X 2 159 [.ref 0, .int x, .int y] (sh, I, L, R) (fun r h' => r = some (.int (aTel x (gSight v x) (cn v 10))) ∧ TACT sh I L R w (vSight v x y) h') := by
  obtain ⟨h0, r7, hWd, rm0, hM, hms, hS, hV, hU, hw, hW⟩ := hq
  have hb := hw.1.2
  refine Ec.of (Nat.le_of_ble_eq_true rfl) ?_
  refine e_iload rfl rfl ?_
  refine e_ipush rfl ?_
  refine e_cne_b rfl (fun b2 => ?_) (fun b2 => ?_)
  · refine e_aload rfl rfl ?_
    refine e_getR rfl h0 r7 ?_
    refine e_getR rfl hWA.1 rm0 ?_
    refine e_getR rfl hM.1 hms ?_
    refine Eg.p1 rfl (by decide) (by decide) rfl (Nat.le_of_ble_eq_true rfl) (xrcv_of rfl hS.1 rfl) ((cs_isThereV hS hV hw).mono (by decide)) ?_
    refine e_ifeq_b rfl (fun b28 => ?_) (fun b28 => ?_)
    · replace b28 := yn_0.mp b28
      refine e_ipush rfl ?_
      have gn : gSight v x = false := decide_eq_false (fun q => b28 q.1)
      exact Eg.ret rfl (by decide) rfl ⟨congrArg (fun z => some (Value.int z)) (aTel_n b2 gn).symm, I, rfl, by unfold vSight; rw [vTel_n b2 gn]; exact hWV, fun i k hi => rfl⟩
    · replace b28 := yn_n0.mp b28
      refine e_iload rfl rfl ?_
      refine Eg.p1 rfl (by decide) (by decide) rfl (Nat.le_of_ble_eq_true rfl) (xrcv_ofs (Or.inl rfl)) (cs_isDayY.mono (by decide)) ?_
      refine e_ifeq_b rfl (fun b35 => ?_) (fun b35 => ?_)
      · replace b35 := yn_0.mp b35
        refine e_ipush rfl ?_
        have gn : gSight v x = false := decide_eq_false (fun q => b35 q.2.1)
        exact Eg.ret rfl (by decide) rfl ⟨congrArg (fun z => some (Value.int z)) (aTel_n b2 gn).symm, I, rfl, by unfold vSight; rw [vTel_n b2 gn]; exact hWV, fun i k hi => rfl⟩
      · replace b35 := yn_n0.mp b35
        refine e_aload rfl rfl ?_
        refine e_getR rfl h0 r7 ?_
        refine e_getIv rfl hWA.1 hWV.1 ?_
        refine e_ipush rfl ?_
        refine e_clt_b rfl (fun b47 => ?_) (fun b47 => ?_)
        · have gg : gSight v x = true := decide_eq_true ⟨b28, b35, (nI_lti (a := cn v 10) (b := 10) (by omega) (by decide)).mp b47⟩
          refine e_aload rfl rfl ?_
          refine e_getR rfl h0 r7 ?_
          refine e_iload rfl rfl ?_
          refine e_iload rfl rfl ?_
          refine Eg.c3 rfl (by decide) (by decide) rfl (Nat.le_of_ble_eq_true rfl) (xrcv_of rfl hWA.1 rfl) ((cs_addSight hWA hWV (x := x) (y := y) (by have := (nI_lti (a := cn v 10) (b := 10) (by omega) (by decide)).mp b47; omega) hy).mono (by decide)) (fun r1 h1 hq => ?_)
          obtain ⟨rfl, I1, rfl, hT, hc, fr⟩ := hq
          refine e_aload rfl rfl ?_
          refine e_getR rfl h0 r7 ?_
          refine e_getIv rfl hWA.1 hc ?_
          exact Eg.ret rfl (by decide) rfl ⟨congrArg (fun z => some (Value.int z)) (aTel_y b2 gg).symm, I1, rfl, by unfold vSight; rw [vTel_y b2 gg]; exact hT, fr⟩
        · refine e_ipush rfl ?_
          have gn : gSight v x = false := decide_eq_false (fun q => b47 ((nI_lti (a := cn v 10) (b := 10) (by omega) (by decide)).mpr q.2.2))
          exact Eg.ret rfl (by decide) rfl ⟨congrArg (fun z => some (Value.int z)) (aTel_n b2 gn).symm, I, rfl, by unfold vSight; rw [vTel_n b2 gn]; exact hWV, fun i k hi => rfl⟩
  · refine e_aload rfl rfl ?_
    refine e_getR rfl h0 r7 ?_
    refine e_ipush rfl ?_
    refine e_putIJ rfl hWA.1 (fun J1 g1 f1 => ?_)
    refine e_ipush rfl ?_
    exact Eg.ret rfl (by decide) rfl ⟨congrArg (fun z => some (Value.int z)) (aTel_z b2).symm, J1, rfl, by unfold vSight; rw [vTel_z b2]; exact hWV.zer (Or.inl rfl) (fun _ => g1) (fun h => absurd h (by decide)) (fun h => absurd h (by decide)) (fun p t h1 h2 h3 => f1 p t (by omega)), fun i k hi => f1 i k (by omega)⟩
theorem cf_told (hq : CQ sh I R w m s v) (hWA : WorldAt sh R w) (hWV : WorV I w v) {x y z : Int32} : Ec X 2 163 [.ref 0, .int x, .int y, .int z] (sh, I, L, R) (fun r h' => r = some (.int (aTel x (gTold v x y z) (cn v 11))) ∧ TACT sh I L R w (vTold v x y z) h') := by
  obtain ⟨h0, r7, hWd, rm0, hM, hms, hS, hV, hU, hw, hW⟩ := hq
  have hb := hw.1.2
  refine Ec.of (Nat.le_of_ble_eq_true rfl) ?_
  refine e_iload rfl rfl ?_
  refine e_ipush rfl ?_
  refine e_cne_b rfl (fun b2 => ?_) (fun b2 => ?_)
  · refine e_aload rfl rfl ?_
    refine e_getR rfl h0 r7 ?_
    refine e_getR rfl hWA.1 rm0 ?_
    refine e_getR rfl hM.1 hms ?_
    refine e_iload rfl rfl ?_
    refine Eg.p2 rfl (by decide) (by decide) rfl (Nat.le_of_ble_eq_true rfl) (xrcv_of rfl hS.1 rfl) ((cs_hasCellV hS hV).mono (by decide)) ?_
    refine e_ifeq_b rfl (fun b29 => ?_) (fun b29 => ?_)
    · replace b29 := yn_0.mp b29
      refine e_ipush rfl ?_
      have gn : gTold v x y z = false := decide_eq_false (fun q => b29 q.1)
      exact Eg.ret rfl (by decide) rfl ⟨congrArg (fun z => some (Value.int z)) (aTel_n b2 gn).symm, I, rfl, by unfold vTold; rw [vTel_n b2 gn]; exact hWV, fun i k hi => rfl⟩
    · replace b29 := yn_n0.mp b29
      refine e_iload rfl rfl ?_
      refine Eg.p1 rfl (by decide) (by decide) rfl (Nat.le_of_ble_eq_true rfl) (xrcv_ofs (Or.inl rfl)) (cs_isDayY.mono (by decide)) ?_
      refine e_ifeq_b rfl (fun b36 => ?_) (fun b36 => ?_)
      · replace b36 := yn_0.mp b36
        refine e_ipush rfl ?_
        have gn : gTold v x y z = false := decide_eq_false (fun q => b36 q.2.1)
        exact Eg.ret rfl (by decide) rfl ⟨congrArg (fun z => some (Value.int z)) (aTel_n b2 gn).symm, I, rfl, by unfold vTold; rw [vTel_n b2 gn]; exact hWV, fun i k hi => rfl⟩
      · replace b36 := yn_n0.mp b36
        refine e_iload rfl rfl ?_
        refine e_ipush rfl ?_
        refine e_ipush rfl ?_
        refine Eg.p3 rfl (by decide) (by decide) rfl (Nat.le_of_ble_eq_true rfl) (xrcv_ofs (Or.inl rfl)) (cs_withinY.mono (by decide)) ?_
        refine e_ifeq_b rfl (fun b46 => ?_) (fun b46 => ?_)
        · replace b46 := yn_0.mp b46
          refine e_ipush rfl ?_
          have gn : gTold v x y z = false := decide_eq_false (fun q => b46 q.2.2.1)
          exact Eg.ret rfl (by decide) rfl ⟨congrArg (fun z => some (Value.int z)) (aTel_n b2 gn).symm, I, rfl, by unfold vTold; rw [vTel_n b2 gn]; exact hWV, fun i k hi => rfl⟩
        · replace b46 := yn_n0.mp b46
          refine e_aload rfl rfl ?_
          refine e_getR rfl h0 r7 ?_
          refine e_getIv rfl hWA.1 hWV.2.2.1 ?_
          refine e_ipush rfl ?_
          refine e_clt_b rfl (fun b58 => ?_) (fun b58 => ?_)
          · have gg : gTold v x y z = true := decide_eq_true ⟨b29, b36, b46, (nI_lti (a := cn v 11) (b := 10) (by omega) (by decide)).mp b58⟩
            refine e_aload rfl rfl ?_
            refine e_getR rfl h0 r7 ?_
            refine e_iload rfl rfl ?_
            refine e_iload rfl rfl ?_
            refine e_iload rfl rfl ?_
            refine Eg.c4 rfl (by decide) (by decide) rfl (Nat.le_of_ble_eq_true rfl) (xrcv_of rfl hWA.1 rfl) ((cs_addHeight hWA hWV (x := x) (y := y) (z := z) (by have := (nI_lti (a := cn v 11) (b := 10) (by omega) (by decide)).mp b58; omega)).mono (by decide)) (fun r1 h1 hq => ?_)
            obtain ⟨rfl, I1, rfl, hT, hc, fr⟩ := hq
            refine e_aload rfl rfl ?_
            refine e_getR rfl h0 r7 ?_
            refine e_getIv rfl hWA.1 hc ?_
            exact Eg.ret rfl (by decide) rfl ⟨congrArg (fun z => some (Value.int z)) (aTel_y b2 gg).symm, I1, rfl, by unfold vTold; rw [vTel_y b2 gg]; exact hT, fr⟩
          · refine e_ipush rfl ?_
            have gn : gTold v x y z = false := decide_eq_false (fun q => b58 ((nI_lti (a := cn v 11) (b := 10) (by omega) (by decide)).mpr q.2.2.2))
            exact Eg.ret rfl (by decide) rfl ⟨congrArg (fun z => some (Value.int z)) (aTel_n b2 gn).symm, I, rfl, by unfold vTold; rw [vTel_n b2 gn]; exact hWV, fun i k hi => rfl⟩
  · refine e_aload rfl rfl ?_
    refine e_getR rfl h0 r7 ?_
    refine e_ipush rfl ?_
    refine e_putIJ rfl hWA.1 (fun J1 g1 f1 => ?_)
    refine e_ipush rfl ?_
    exact Eg.ret rfl (by decide) rfl ⟨congrArg (fun z => some (Value.int z)) (aTel_z b2).symm, J1, rfl, by unfold vTold; rw [vTel_z b2]; exact hWV.zer (Or.inr (Or.inl rfl)) (fun h => absurd h (by decide)) (fun _ => g1) (fun h => absurd h (by decide)) (fun p t h1 h2 h3 => f1 p t (by omega)), fun i k hi => f1 i k (by omega)⟩
theorem cf_fleet (hq : CQ sh I R w m s v) (hWA : WorldAt sh R w) (hWV : WorV I w v) {x y z : Int32} : Ec X 2 166 [.ref 0, .int x, .int y, .int z] (sh, I, L, R) (fun r h' => r = some (.int (aTel x (gFleet v x y z) (cn v 12))) ∧ TACT sh I L R w (vFleet v x y z) h') := by
  obtain ⟨h0, r7, hWd, rm0, hM, hms, hS, hV, hU, hw, hW⟩ := hq
  have hb := hw.1.2
  refine Ec.of (Nat.le_of_ble_eq_true rfl) ?_
  refine e_aload rfl rfl ?_
  refine e_getR rfl h0 r7 ?_
  refine e_getR rfl hWA.1 hWA.2.2.2.2.2.2.2.2.1.2 ?_
  refine e_astore rfl ?_
  refine e_iload rfl rfl ?_
  refine e_ipush rfl ?_
  refine e_cne_b rfl (fun b11 => ?_) (fun b11 => ?_)
  · refine e_aload rfl rfl ?_
    refine e_getR rfl h0 r7 ?_
    refine e_getR rfl hWA.1 rm0 ?_
    refine e_getR rfl hM.1 hms ?_
    refine Eg.p1 rfl (by decide) (by decide) rfl (Nat.le_of_ble_eq_true rfl) (xrcv_of rfl hS.1 rfl) ((cs_isThereV hS hV hw).mono (by decide)) ?_
    refine e_ifeq_b rfl (fun b35 => ?_) (fun b35 => ?_)
    · replace b35 := yn_0.mp b35
      refine e_ipush rfl ?_
      have gn : gFleet v x y z = false := decide_eq_false (fun q => b35 q.1)
      exact Eg.ret rfl (by decide) rfl ⟨congrArg (fun z => some (Value.int z)) (aTel_n b11 gn).symm, I, rfl, by unfold vFleet; rw [vTel_n b11 gn]; exact hWV, fun i k hi => rfl⟩
    · replace b35 := yn_n0.mp b35
      refine e_aload rfl rfl ?_
      refine e_getIv rfl hWA.2.2.2.2.2.2.2.2.1.1 hWV.2.2.2.2.1 ?_
      refine e_ipush rfl ?_
      refine e_clt_b rfl (fun b45 => ?_) (fun b45 => ?_)
      · refine e_iload rfl rfl ?_
        refine e_ipush rfl ?_
        refine e_ipush rfl ?_
        refine Eg.p3 rfl (by decide) (by decide) rfl (Nat.le_of_ble_eq_true rfl) (xrcv_ofs (Or.inl rfl)) (cs_withinY.mono (by decide)) ?_
        refine e_ifeq_b rfl (fun b58 => ?_) (fun b58 => ?_)
        · replace b58 := yn_0.mp b58
          refine e_ipush rfl ?_
          have gn : gFleet v x y z = false := decide_eq_false (fun q => b58 q.2.2.1)
          exact Eg.ret rfl (by decide) rfl ⟨congrArg (fun z => some (Value.int z)) (aTel_n b11 gn).symm, I, rfl, by unfold vFleet; rw [vTel_n b11 gn]; exact hWV, fun i k hi => rfl⟩
        · replace b58 := yn_n0.mp b58
          refine e_iload rfl rfl ?_
          refine e_ipush rfl ?_
          refine e_ipush rfl ?_
          refine Eg.p3 rfl (by decide) (by decide) rfl (Nat.le_of_ble_eq_true rfl) (xrcv_ofs (Or.inl rfl)) (cs_withinY.mono (by decide)) ?_
          refine e_ifeq_b rfl (fun b68 => ?_) (fun b68 => ?_)
          · replace b68 := yn_0.mp b68
            refine e_ipush rfl ?_
            have gn : gFleet v x y z = false := decide_eq_false (fun q => b68 q.2.2.2.1)
            exact Eg.ret rfl (by decide) rfl ⟨congrArg (fun z => some (Value.int z)) (aTel_n b11 gn).symm, I, rfl, by unfold vFleet; rw [vTel_n b11 gn]; exact hWV, fun i k hi => rfl⟩
          · replace b68 := yn_n0.mp b68
            refine e_iload rfl rfl ?_
            refine e_ipush rfl ?_
            refine e_ipush rfl ?_
            refine Eg.p3 rfl (by decide) (by decide) rfl (Nat.le_of_ble_eq_true rfl) (xrcv_ofs (Or.inl rfl)) (cs_withinY.mono (by decide)) ?_
            refine e_ifne_b rfl (fun b78 => ?_) (fun b78 => ?_)
            · replace b78 := yn_n0.mp b78
              have gg : gFleet v x y z = true := decide_eq_true ⟨b35, (nI_lti (a := cn v 12) (b := 6) (by omega) (by decide)).mp b45, b58, b68, b78⟩
              refine e_aload rfl rfl ?_
              refine e_iload rfl rfl ?_
              refine e_iload rfl rfl ?_
              refine e_iload rfl rfl ?_
              refine Eg.c4 rfl (by decide) (by decide) rfl (Nat.le_of_ble_eq_true rfl) (xrcv_of rfl hWA.2.2.2.2.2.2.2.2.1.1 rfl) ((cs_addFleet hWA hWV (x := x) (y := y) (z := z) ((nI_lti (a := cn v 12) (b := 6) (by omega) (by decide)).mp b45)).mono (by decide)) (fun r1 h1 hq => ?_)
              obtain ⟨rfl, I1, rfl, hT, hc, fr⟩ := hq
              refine e_aload rfl rfl ?_
              refine e_getIv rfl hWA.2.2.2.2.2.2.2.2.1.1 hc ?_
              exact Eg.ret rfl (by decide) rfl ⟨congrArg (fun z => some (Value.int z)) (aTel_y b11 gg).symm, I1, rfl, by unfold vFleet; rw [vTel_y b11 gg]; exact hT, fr⟩
            · replace b78 := yn_0.mp b78
              refine e_ipush rfl ?_
              have gn : gFleet v x y z = false := decide_eq_false (fun q => b78 q.2.2.2.2)
              exact Eg.ret rfl (by decide) rfl ⟨congrArg (fun z => some (Value.int z)) (aTel_n b11 gn).symm, I, rfl, by unfold vFleet; rw [vTel_n b11 gn]; exact hWV, fun i k hi => rfl⟩
      · refine e_ipush rfl ?_
        have gn : gFleet v x y z = false := decide_eq_false (fun q => b45 ((nI_lti (a := cn v 12) (b := 6) (by omega) (by decide)).mpr q.2.1))
        exact Eg.ret rfl (by decide) rfl ⟨congrArg (fun z => some (Value.int z)) (aTel_n b11 gn).symm, I, rfl, by unfold vFleet; rw [vTel_n b11 gn]; exact hWV, fun i k hi => rfl⟩
  · refine e_aload rfl rfl ?_
    refine e_ipush rfl ?_
    refine e_putIJ rfl hWA.2.2.2.2.2.2.2.2.1.1 (fun J1 g1 f1 => ?_)
    refine e_ipush rfl ?_
    exact Eg.ret rfl (by decide) rfl ⟨congrArg (fun z => some (Value.int z)) (aTel_z b11).symm, J1, rfl, by unfold vFleet; rw [vTel_z b11]; exact hWV.zer (Or.inr (Or.inr rfl)) (fun h => absurd h (by decide)) (fun h => absurd h (by decide)) (fun _ => g1) (fun p t h1 h2 h3 => f1 p t (by omega)), fun i k hi => f1 i k (by omega)⟩
theorem md_sight (hM : MW sh R) (hv : mV I v) (hw : Wf v) {x y : Int32} (hy : y = 0 ∨ y = 1) : Ec X 3 285 [.ref 290, .int x, .int y] (sh, I, L, R) (fun r h' => r = some (.int (aTel x (gSight v x) (cn v 10))) ∧ TMA sh I L R (vSight v x y) h') := by
  have hb := hw.1.2
  refine Ec.of (Nat.le_of_ble_eq_true rfl) ?_
  refine e_iload rfl rfl ?_
  refine e_ipush rfl ?_
  refine e_cne_b rfl (fun b2 => ?_) (fun b2 => ?_)
  · refine e_aload rfl rfl ?_
    refine e_getR rfl hM.1 (show R 290 1 = some 291 from (hM.2 0 _ rfl).2) ?_
    refine e_ipush rfl ?_
    refine e_ialv (t := 10) (n := 14) rfl (show sh[291]? = some (20, 14) from (hM.2 0 _ rfl).1) rfl (by decide) (by decide) (hv.n hw (j := 10) (by decide)) ?_
    refine e_istore rfl ?_
    refine e_aload rfl rfl ?_
    refine Eg.p1 rfl (by decide) (by decide) rfl (Nat.le_of_ble_eq_true rfl) (xrcv_of rfl hM.1 rfl) ((ms_isSeaV hM hv hw).mono (by decide)) ?_
    refine e_ifeq_b rfl (fun b27 => ?_) (fun b27 => ?_)
    · replace b27 := yn_0.mp b27
      refine e_ipush rfl ?_
      have gn : gSight v x = false := decide_eq_false (fun q => b27 q.1)
      exact Eg.ret rfl (by decide) rfl ⟨congrArg (fun z => some (Value.int z)) (aTel_n b2 gn).symm, I, rfl, by unfold vSight; rw [vTel_n b2 gn]; exact hv, fun i x hi => rfl⟩
    · replace b27 := yn_n0.mp b27
      refine e_iload rfl rfl ?_
      refine Eg.p1 rfl (by decide) (by decide) rfl (Nat.le_of_ble_eq_true rfl) (xrcv_ofs (Or.inl rfl)) (ms_isDay.mono (by decide)) ?_
      refine e_ifeq_b rfl (fun b34 => ?_) (fun b34 => ?_)
      · replace b34 := yn_0.mp b34
        refine e_ipush rfl ?_
        have gn : gSight v x = false := decide_eq_false (fun q => b34 q.2.1)
        exact Eg.ret rfl (by decide) rfl ⟨congrArg (fun z => some (Value.int z)) (aTel_n b2 gn).symm, I, rfl, by unfold vSight; rw [vTel_n b2 gn]; exact hv, fun i x hi => rfl⟩
      · replace b34 := yn_n0.mp b34
        refine e_iload rfl rfl ?_
        refine e_ipush rfl ?_
        refine e_cne_b rfl (fun b40 => ?_) (fun b40 => ?_)
        · have gg : gSight v x = true := decide_eq_true ⟨b27, b34, Nat.lt_of_le_of_ne (by omega) (fun q => b40 (by rw [q]; rfl))⟩
          refine e_aload rfl rfl ?_
          refine e_getR rfl hM.1 (show R 290 24 = some 314 from (hM.2 23 _ rfl).2) ?_
          refine e_iload rfl rfl ?_
          refine e_iload rfl rfl ?_
          refine e_iasJ (t := (cn v 10)) (n := 10) rfl (show sh[314]? = some (20, 10) from (hM.2 23 _ rfl).1) rfl (by omega) (by decide) (fun J1 g1 f1 => ?_)
          refine e_aload rfl rfl ?_
          refine e_getR rfl hM.1 (show R 290 25 = some 315 from (hM.2 24 _ rfl).2) ?_
          refine e_iload rfl rfl ?_
          refine e_iload rfl rfl ?_
          refine e_ifeq_b rfl (fun b59 => ?_) (fun b59 => ?_)
          · refine e_ipush rfl ?_
            refine e_iasJ (t := (cn v 10)) (n := 10) rfl (show sh[315]? = some (20, 10) from (hM.2 24 _ rfl).1) rfl (by omega) (by decide) (fun J2 g2 f2 => ?_)
            replace g2 := g2.trans b59.symm
            refine e_aload rfl rfl ?_
            refine e_getR rfl hM.1 (show R 290 1 = some 291 from (hM.2 0 _ rfl).2) ?_
            refine e_ipush rfl ?_
            refine e_dup2 rfl ?_
            refine e_ialv (t := 10) (n := 14) rfl (show sh[291]? = some (20, 14) from (hM.2 0 _ rfl).1) rfl (by decide) (by decide) ((f2 291 10 (Or.inl (by omega))).trans ((f1 291 10 (Or.inl (by omega))).trans (hv.n hw (j := 10) (by decide)))) ?_
            refine e_ipush rfl ?_
            refine e_iadd rfl ?_
            rw [show (nI (cn v 10)) + 1 = nI (cn v 10 + 1) from nI_1 _]
            refine e_iasJ (t := 10) (n := 14) rfl (show sh[291]? = some (20, 14) from (hM.2 0 _ rfl).1) rfl (by decide) (by decide) (fun J3 g3 f3 => ?_)
            refine e_iload rfl rfl ?_
            refine e_ipush rfl ?_
            refine e_iadd rfl ?_
            rw [show (nI (cn v 10)) + 1 = nI (cn v 10 + 1) from nI_1 _]
            exact Eg.ret rfl (by decide) rfl ⟨congrArg (fun z => some (Value.int z)) (aTel_y b2 gg).symm, J3, rfl, by unfold vSight; rw [vTel_y b2 gg]; unfold telF; rw [xu_xu]; exact (((hv.up (f := 24) (by decide) g1 f1).up (f := 25) (by decide) g2 f2).up (f := 1) (by decide) g3 f3), fun i x hi => ((f3 i x (by omega)).trans ((f2 i x (by omega)).trans (f1 i x (by omega))))⟩
          · refine e_ipush rfl ?_
            refine e_goto rfl ?_
            refine e_iasJ (t := (cn v 10)) (n := 10) rfl (show sh[315]? = some (20, 10) from (hM.2 24 _ rfl).1) rfl (by omega) (by decide) (fun J4 g4 f4 => ?_)
            replace g4 := g4.trans (hy.resolve_left b59).symm
            refine e_aload rfl rfl ?_
            refine e_getR rfl hM.1 (show R 290 1 = some 291 from (hM.2 0 _ rfl).2) ?_
            refine e_ipush rfl ?_
            refine e_dup2 rfl ?_
            refine e_ialv (t := 10) (n := 14) rfl (show sh[291]? = some (20, 14) from (hM.2 0 _ rfl).1) rfl (by decide) (by decide) ((f4 291 10 (Or.inl (by omega))).trans ((f1 291 10 (Or.inl (by omega))).trans (hv.n hw (j := 10) (by decide)))) ?_
            refine e_ipush rfl ?_
            refine e_iadd rfl ?_
            rw [show (nI (cn v 10)) + 1 = nI (cn v 10 + 1) from nI_1 _]
            refine e_iasJ (t := 10) (n := 14) rfl (show sh[291]? = some (20, 14) from (hM.2 0 _ rfl).1) rfl (by decide) (by decide) (fun J5 g5 f5 => ?_)
            refine e_iload rfl rfl ?_
            refine e_ipush rfl ?_
            refine e_iadd rfl ?_
            rw [show (nI (cn v 10)) + 1 = nI (cn v 10 + 1) from nI_1 _]
            exact Eg.ret rfl (by decide) rfl ⟨congrArg (fun z => some (Value.int z)) (aTel_y b2 gg).symm, J5, rfl, by unfold vSight; rw [vTel_y b2 gg]; unfold telF; rw [xu_xu]; exact (((hv.up (f := 24) (by decide) g1 f1).up (f := 25) (by decide) g4 f4).up (f := 1) (by decide) g5 f5), fun i x hi => ((f5 i x (by omega)).trans ((f4 i x (by omega)).trans (f1 i x (by omega))))⟩
        · refine e_ipush rfl ?_
          have gn : gSight v x = false := decide_eq_false (fun q => absurd q.2.2 (by have := (nI_eq (a := cn v 10) (b := 10) (by omega) (by decide)).mp b40; omega))
          exact Eg.ret rfl (by decide) rfl ⟨congrArg (fun z => some (Value.int z)) (aTel_n b2 gn).symm, I, rfl, by unfold vSight; rw [vTel_n b2 gn]; exact hv, fun i x hi => rfl⟩
  · refine e_aload rfl rfl ?_
    refine e_getR rfl hM.1 (show R 290 1 = some 291 from (hM.2 0 _ rfl).2) ?_
    refine e_ipush rfl ?_
    refine e_ipush rfl ?_
    refine e_iasJ (t := 10) (n := 14) rfl (show sh[291]? = some (20, 14) from (hM.2 0 _ rfl).1) rfl (by decide) (by decide) (fun J6 g6 f6 => ?_)
    refine e_ipush rfl ?_
    exact Eg.ret rfl (by decide) rfl ⟨congrArg (fun z => some (Value.int z)) (aTel_z b2).symm, J1, rfl, by unfold vSight; rw [vTel_z b2]; exact hv.up (f := 1) (by decide) g1 f1, fun i x hi => f1 i x (by omega)⟩
theorem md_told (hM : MW sh R) (hv : mV I v) (hw : Wf v) {x y z : Int32} : Ec X 3 292 [.ref 290, .int x, .int y, .int z] (sh, I, L, R) (fun r h' => r = some (.int (aTel x (gTold v x y z) (cn v 11))) ∧ TMA sh I L R (vTold v x y z) h') := by
  have hb := hw.1.2
  refine Ec.of (Nat.le_of_ble_eq_true rfl) ?_
  refine e_iload rfl rfl ?_
  refine e_ipush rfl ?_
  refine e_cne_b rfl (fun b2 => ?_) (fun b2 => ?_)
  · refine e_aload rfl rfl ?_
    refine e_getR rfl hM.1 (show R 290 1 = some 291 from (hM.2 0 _ rfl).2) ?_
    refine e_ipush rfl ?_
    refine e_ialv (t := 11) (n := 14) rfl (show sh[291]? = some (20, 14) from (hM.2 0 _ rfl).1) rfl (by decide) (by decide) (hv.n hw (j := 11) (by decide)) ?_
    refine e_istore rfl ?_
    refine e_aload rfl rfl ?_
    refine e_iload rfl rfl ?_
    refine Eg.p2 rfl (by decide) (by decide) rfl (Nat.le_of_ble_eq_true rfl) (xrcv_of rfl hM.1 rfl) ((ms_isCell hM hv hw).mono (by decide)) ?_
    refine e_ifeq_b rfl (fun b29 => ?_) (fun b29 => ?_)
    · replace b29 := yn_0.mp b29
      refine e_ipush rfl ?_
      have gn : gTold v x y z = false := decide_eq_false (fun q => b29 q.1)
      exact Eg.ret rfl (by decide) rfl ⟨congrArg (fun z => some (Value.int z)) (aTel_n b2 gn).symm, I, rfl, by unfold vTold; rw [vTel_n b2 gn]; exact hv, fun i x hi => rfl⟩
    · replace b29 := yn_n0.mp b29
      refine e_iload rfl rfl ?_
      refine Eg.p1 rfl (by decide) (by decide) rfl (Nat.le_of_ble_eq_true rfl) (xrcv_ofs (Or.inl rfl)) (ms_isDay.mono (by decide)) ?_
      refine e_ifeq_b rfl (fun b36 => ?_) (fun b36 => ?_)
      · replace b36 := yn_0.mp b36
        refine e_ipush rfl ?_
        have gn : gTold v x y z = false := decide_eq_false (fun q => b36 q.2.1)
        exact Eg.ret rfl (by decide) rfl ⟨congrArg (fun z => some (Value.int z)) (aTel_n b2 gn).symm, I, rfl, by unfold vTold; rw [vTel_n b2 gn]; exact hv, fun i x hi => rfl⟩
      · replace b36 := yn_n0.mp b36
        refine e_iload rfl rfl ?_
        refine e_i2l rfl ?_
        refine e_lpush rfl ?_
        refine e_lpush rfl ?_
        refine Eg.p3 rfl (by decide) (by decide) rfl (Nat.le_of_ble_eq_true rfl) (xrcv_ofs (Or.inl rfl)) ((ms_inv (x := z) (y := 0) (z := 99) rfl (by decide) (by decide)).mono (by decide)) ?_
        refine e_ifeq_b rfl (fun b48 => ?_) (fun b48 => ?_)
        · replace b48 := yn_0.mp b48
          refine e_ipush rfl ?_
          have gn : gTold v x y z = false := decide_eq_false (fun q => b48 q.2.2.1)
          exact Eg.ret rfl (by decide) rfl ⟨congrArg (fun z => some (Value.int z)) (aTel_n b2 gn).symm, I, rfl, by unfold vTold; rw [vTel_n b2 gn]; exact hv, fun i x hi => rfl⟩
        · replace b48 := yn_n0.mp b48
          refine e_iload rfl rfl ?_
          refine e_ipush rfl ?_
          refine e_cne_b rfl (fun b55 => ?_) (fun b55 => ?_)
          · have gg : gTold v x y z = true := decide_eq_true ⟨b29, b36, b48, Nat.lt_of_le_of_ne (by omega) (fun q => b55 (by rw [q]; rfl))⟩
            refine e_aload rfl rfl ?_
            refine e_getR rfl hM.1 (show R 290 26 = some 316 from (hM.2 25 _ rfl).2) ?_
            refine e_iload rfl rfl ?_
            refine e_iload rfl rfl ?_
            refine e_iasJ (t := (cn v 11)) (n := 10) rfl (show sh[316]? = some (20, 10) from (hM.2 25 _ rfl).1) rfl (by omega) (by decide) (fun J1 g1 f1 => ?_)
            refine e_aload rfl rfl ?_
            refine e_getR rfl hM.1 (show R 290 27 = some 317 from (hM.2 26 _ rfl).2) ?_
            refine e_iload rfl rfl ?_
            refine e_iload rfl rfl ?_
            refine e_iasJ (t := (cn v 11)) (n := 10) rfl (show sh[317]? = some (20, 10) from (hM.2 26 _ rfl).1) rfl (by omega) (by decide) (fun J2 g2 f2 => ?_)
            refine e_aload rfl rfl ?_
            refine e_getR rfl hM.1 (show R 290 28 = some 318 from (hM.2 27 _ rfl).2) ?_
            refine e_iload rfl rfl ?_
            refine e_iload rfl rfl ?_
            refine e_iasJ (t := (cn v 11)) (n := 10) rfl (show sh[318]? = some (20, 10) from (hM.2 27 _ rfl).1) rfl (by omega) (by decide) (fun J3 g3 f3 => ?_)
            refine e_aload rfl rfl ?_
            refine e_getR rfl hM.1 (show R 290 1 = some 291 from (hM.2 0 _ rfl).2) ?_
            refine e_ipush rfl ?_
            refine e_dup2 rfl ?_
            refine e_ialv (t := 11) (n := 14) rfl (show sh[291]? = some (20, 14) from (hM.2 0 _ rfl).1) rfl (by decide) (by decide) ((f3 291 11 (Or.inl (by omega))).trans ((f2 291 11 (Or.inl (by omega))).trans ((f1 291 11 (Or.inl (by omega))).trans (hv.n hw (j := 11) (by decide))))) ?_
            refine e_ipush rfl ?_
            refine e_iadd rfl ?_
            rw [show (nI (cn v 11)) + 1 = nI (cn v 11 + 1) from nI_1 _]
            refine e_iasJ (t := 11) (n := 14) rfl (show sh[291]? = some (20, 14) from (hM.2 0 _ rfl).1) rfl (by decide) (by decide) (fun J4 g4 f4 => ?_)
            refine e_iload rfl rfl ?_
            refine e_ipush rfl ?_
            refine e_iadd rfl ?_
            rw [show (nI (cn v 11)) + 1 = nI (cn v 11 + 1) from nI_1 _]
            exact Eg.ret rfl (by decide) rfl ⟨congrArg (fun z => some (Value.int z)) (aTel_y b2 gg).symm, J4, rfl, by unfold vTold; rw [vTel_y b2 gg]; unfold telF; exact ((((hv.up (f := 26) (by decide) g1 f1).up (f := 27) (by decide) g2 f2).up (f := 28) (by decide) g3 f3).up (f := 1) (by decide) g4 f4), fun i x hi => ((f4 i x (by omega)).trans ((f3 i x (by omega)).trans ((f2 i x (by omega)).trans (f1 i x (by omega)))))⟩
          · refine e_ipush rfl ?_
            have gn : gTold v x y z = false := decide_eq_false (fun q => absurd q.2.2.2 (by have := (nI_eq (a := cn v 11) (b := 10) (by omega) (by decide)).mp b55; omega))
            exact Eg.ret rfl (by decide) rfl ⟨congrArg (fun z => some (Value.int z)) (aTel_n b2 gn).symm, I, rfl, by unfold vTold; rw [vTel_n b2 gn]; exact hv, fun i x hi => rfl⟩
  · refine e_aload rfl rfl ?_
    refine e_getR rfl hM.1 (show R 290 1 = some 291 from (hM.2 0 _ rfl).2) ?_
    refine e_ipush rfl ?_
    refine e_ipush rfl ?_
    refine e_iasJ (t := 11) (n := 14) rfl (show sh[291]? = some (20, 14) from (hM.2 0 _ rfl).1) rfl (by decide) (by decide) (fun J5 g5 f5 => ?_)
    refine e_ipush rfl ?_
    exact Eg.ret rfl (by decide) rfl ⟨congrArg (fun z => some (Value.int z)) (aTel_z b2).symm, J1, rfl, by unfold vTold; rw [vTel_z b2]; exact hv.up (f := 1) (by decide) g1 f1, fun i x hi => f1 i x (by omega)⟩
theorem md_fleet (hM : MW sh R) (hv : mV I v) (hw : Wf v) {x y z : Int32} : Ec X 3 296 [.ref 290, .int x, .int y, .int z] (sh, I, L, R) (fun r h' => r = some (.int (aTel x (gFleet v x y z) (cn v 12))) ∧ TMA sh I L R (vFleet v x y z) h') := by
  have hb := hw.1.2
  refine Ec.of (Nat.le_of_ble_eq_true rfl) ?_
  refine e_iload rfl rfl ?_
  refine e_ipush rfl ?_
  refine e_cne_b rfl (fun b2 => ?_) (fun b2 => ?_)
  · refine e_aload rfl rfl ?_
    refine e_getR rfl hM.1 (show R 290 1 = some 291 from (hM.2 0 _ rfl).2) ?_
    refine e_ipush rfl ?_
    refine e_ialv (t := 12) (n := 14) rfl (show sh[291]? = some (20, 14) from (hM.2 0 _ rfl).1) rfl (by decide) (by decide) (hv.n hw (j := 12) (by decide)) ?_
    refine e_istore rfl ?_
    refine e_aload rfl rfl ?_
    refine Eg.p1 rfl (by decide) (by decide) rfl (Nat.le_of_ble_eq_true rfl) (xrcv_of rfl hM.1 rfl) ((ms_isSeaV hM hv hw).mono (by decide)) ?_
    refine e_ifeq_b rfl (fun b28 => ?_) (fun b28 => ?_)
    · replace b28 := yn_0.mp b28
      refine e_ipush rfl ?_
      have gn : gFleet v x y z = false := decide_eq_false (fun q => b28 q.1)
      exact Eg.ret rfl (by decide) rfl ⟨congrArg (fun z => some (Value.int z)) (aTel_n b2 gn).symm, I, rfl, by unfold vFleet; rw [vTel_n b2 gn]; exact hv, fun i x hi => rfl⟩
    · replace b28 := yn_n0.mp b28
      refine e_iload rfl rfl ?_
      refine e_i2l rfl ?_
      refine e_lpush rfl ?_
      refine e_lpush rfl ?_
      refine Eg.p3 rfl (by decide) (by decide) rfl (Nat.le_of_ble_eq_true rfl) (xrcv_ofs (Or.inl rfl)) ((ms_inv (x := x) (y := 1) (z := 99) rfl (by decide) (by decide)).mono (by decide)) ?_
      refine e_ifeq_b rfl (fun b40 => ?_) (fun b40 => ?_)
      · replace b40 := yn_0.mp b40
        refine e_ipush rfl ?_
        have gn : gFleet v x y z = false := decide_eq_false (fun q => b40 q.2.2.1)
        exact Eg.ret rfl (by decide) rfl ⟨congrArg (fun z => some (Value.int z)) (aTel_n b2 gn).symm, I, rfl, by unfold vFleet; rw [vTel_n b2 gn]; exact hv, fun i x hi => rfl⟩
      · replace b40 := yn_n0.mp b40
        refine e_iload rfl rfl ?_
        refine e_i2l rfl ?_
        refine e_lpush rfl ?_
        refine e_lpush rfl ?_
        refine Eg.p3 rfl (by decide) (by decide) rfl (Nat.le_of_ble_eq_true rfl) (xrcv_ofs (Or.inl rfl)) ((ms_inv (x := y) (y := 0) (z := 99) rfl (by decide) (by decide)).mono (by decide)) ?_
        refine e_ifeq_b rfl (fun b52 => ?_) (fun b52 => ?_)
        · replace b52 := yn_0.mp b52
          refine e_ipush rfl ?_
          have gn : gFleet v x y z = false := decide_eq_false (fun q => b52 q.2.2.2.1)
          exact Eg.ret rfl (by decide) rfl ⟨congrArg (fun z => some (Value.int z)) (aTel_n b2 gn).symm, I, rfl, by unfold vFleet; rw [vTel_n b2 gn]; exact hv, fun i x hi => rfl⟩
        · replace b52 := yn_n0.mp b52
          refine e_iload rfl rfl ?_
          refine e_i2l rfl ?_
          refine e_lpush rfl ?_
          refine e_lpush rfl ?_
          refine Eg.p3 rfl (by decide) (by decide) rfl (Nat.le_of_ble_eq_true rfl) (xrcv_ofs (Or.inl rfl)) ((ms_inv (x := z) (y := 0) (z := 99) rfl (by decide) (by decide)).mono (by decide)) ?_
          refine e_ifeq_b rfl (fun b64 => ?_) (fun b64 => ?_)
          · replace b64 := yn_0.mp b64
            refine e_ipush rfl ?_
            have gn : gFleet v x y z = false := decide_eq_false (fun q => b64 q.2.2.2.2)
            exact Eg.ret rfl (by decide) rfl ⟨congrArg (fun z => some (Value.int z)) (aTel_n b2 gn).symm, I, rfl, by unfold vFleet; rw [vTel_n b2 gn]; exact hv, fun i x hi => rfl⟩
          · replace b64 := yn_n0.mp b64
            refine e_iload rfl rfl ?_
            refine e_ipush rfl ?_
            refine e_cne_b rfl (fun b71 => ?_) (fun b71 => ?_)
            · have gg : gFleet v x y z = true := decide_eq_true ⟨b28, Nat.lt_of_le_of_ne (by omega) (fun q => b71 (by rw [q]; rfl)), b40, b52, b64⟩
              refine e_aload rfl rfl ?_
              refine e_getR rfl hM.1 (show R 290 29 = some 319 from (hM.2 28 _ rfl).2) ?_
              refine e_iload rfl rfl ?_
              refine e_iload rfl rfl ?_
              refine e_iasJ (t := (cn v 12)) (n := 6) rfl (show sh[319]? = some (20, 6) from (hM.2 28 _ rfl).1) rfl (by omega) (by decide) (fun J1 g1 f1 => ?_)
              refine e_aload rfl rfl ?_
              refine e_getR rfl hM.1 (show R 290 30 = some 320 from (hM.2 29 _ rfl).2) ?_
              refine e_iload rfl rfl ?_
              refine e_iload rfl rfl ?_
              refine e_iasJ (t := (cn v 12)) (n := 6) rfl (show sh[320]? = some (20, 6) from (hM.2 29 _ rfl).1) rfl (by omega) (by decide) (fun J2 g2 f2 => ?_)
              refine e_aload rfl rfl ?_
              refine e_getR rfl hM.1 (show R 290 31 = some 321 from (hM.2 30 _ rfl).2) ?_
              refine e_iload rfl rfl ?_
              refine e_iload rfl rfl ?_
              refine e_iasJ (t := (cn v 12)) (n := 6) rfl (show sh[321]? = some (20, 6) from (hM.2 30 _ rfl).1) rfl (by omega) (by decide) (fun J3 g3 f3 => ?_)
              refine e_aload rfl rfl ?_
              refine e_getR rfl hM.1 (show R 290 1 = some 291 from (hM.2 0 _ rfl).2) ?_
              refine e_ipush rfl ?_
              refine e_dup2 rfl ?_
              refine e_ialv (t := 12) (n := 14) rfl (show sh[291]? = some (20, 14) from (hM.2 0 _ rfl).1) rfl (by decide) (by decide) ((f3 291 12 (Or.inl (by omega))).trans ((f2 291 12 (Or.inl (by omega))).trans ((f1 291 12 (Or.inl (by omega))).trans (hv.n hw (j := 12) (by decide))))) ?_
              refine e_ipush rfl ?_
              refine e_iadd rfl ?_
              rw [show (nI (cn v 12)) + 1 = nI (cn v 12 + 1) from nI_1 _]
              refine e_iasJ (t := 12) (n := 14) rfl (show sh[291]? = some (20, 14) from (hM.2 0 _ rfl).1) rfl (by decide) (by decide) (fun J4 g4 f4 => ?_)
              refine e_iload rfl rfl ?_
              refine e_ipush rfl ?_
              refine e_iadd rfl ?_
              rw [show (nI (cn v 12)) + 1 = nI (cn v 12 + 1) from nI_1 _]
              exact Eg.ret rfl (by decide) rfl ⟨congrArg (fun z => some (Value.int z)) (aTel_y b2 gg).symm, J4, rfl, by unfold vFleet; rw [vTel_y b2 gg]; unfold telF; exact ((((hv.up (f := 29) (by decide) g1 f1).up (f := 30) (by decide) g2 f2).up (f := 31) (by decide) g3 f3).up (f := 1) (by decide) g4 f4), fun i x hi => ((f4 i x (by omega)).trans ((f3 i x (by omega)).trans ((f2 i x (by omega)).trans (f1 i x (by omega)))))⟩
            · refine e_ipush rfl ?_
              have gn : gFleet v x y z = false := decide_eq_false (fun q => absurd q.2.1 (by have := (nI_eq (a := cn v 12) (b := 6) (by omega) (by decide)).mp b71; omega))
              exact Eg.ret rfl (by decide) rfl ⟨congrArg (fun z => some (Value.int z)) (aTel_n b2 gn).symm, I, rfl, by unfold vFleet; rw [vTel_n b2 gn]; exact hv, fun i x hi => rfl⟩
  · refine e_aload rfl rfl ?_
    refine e_getR rfl hM.1 (show R 290 1 = some 291 from (hM.2 0 _ rfl).2) ?_
    refine e_ipush rfl ?_
    refine e_ipush rfl ?_
    refine e_iasJ (t := 12) (n := 14) rfl (show sh[291]? = some (20, 14) from (hM.2 0 _ rfl).1) rfl (by decide) (by decide) (fun J5 g5 f5 => ?_)
    refine e_ipush rfl ?_
    exact Eg.ret rfl (by decide) rfl ⟨congrArg (fun z => some (Value.int z)) (aTel_z b2).symm, J1, rfl, by unfold vFleet; rw [vTel_z b2]; exact hv.up (f := 1) (by decide) g1 f1, fun i x hi => f1 i x (by omega)⟩
end TF
