/-! A SEA read, the one side: its clauses -/
section CS
variable {X : xX} {h : xH} {sh : List (Nat × Nat)} {I : Nat → Nat → Int32} {L : Nat → Nat → Int64} {R : Nat → Nat → Option Nat} {B : Nat → Nat} {n : Nat} {u : Nat → Nat → Int32} {s : Nat}
/-- numbers, one behind the other: the fault, the place -/
def kF (B : Nat → Nat) (n q : Nat) (f : Int32) (a b : Nat) : Int32 := tkF B n q f (nI a) (nI b)
def kP (B : Nat → Nat) (n q : Nat) (f : Int32) (a b : Nat) : Nat := tkP B n q f (nI a) (nI b)
def tn (B : Nat → Nat) (n q : Nat) : Nat := (tvl B n q).toNatClampNeg
theorem kF_n {q a b : Nat} {f : Int32} (h : ¬ f = 0) : kF B n q f a b = f := tkF_n h
theorem kF_0 {q a b : Nat} {f : Int32} (h : kF B n q f a b = 0) : f = 0 := Decidable.byContradiction (fun e => e (by rw [kF_n e] at h; exact h))
theorem tk_get {q a b : Nat} {f : Int32} (hq : q ≤ n) (hn : n ≤ 400) (hab : a ≤ b) (hb : b < 2 ^ 31) (h : kF B n q f a b = 0) : tkV B n q (nI a) (nI b) = nI (tn B n q) ∧ a ≤ tn B n q ∧ tn B n q ≤ b ∧ tvl B n q = nI (tn B n q) ∧ kP B n q f a b = nxt B n q ∧ tkB B n q (nI a) (nI b) = true := by
  have ef := kF_0 h
  subst ef
  have tb : tkB B n q (nI a) (nI b) = true := Decidable.byContradiction (fun e => by
    unfold kF tkF at h
    rw [if_neg e] at h
    split at h
    · exact fl_ne (by omega) h
    · exact fl_ne (by omega) h)
  have hr := (of_decide_eq_true tb).2
  have h1x : ¬ tvl B n q < nI a := fun e => hr (Or.inl e)
  have h2x : ¬ nI b < tvl B n q := fun e => hr (Or.inr e)
  have h0x : ¬ tvl B n q < 0 := fun e => h1x (Int32.lt_of_lt_of_le e (Int32.not_lt.mp (nI_pos (by omega))))
  obtain ⟨j, hj, ej⟩ := nI_of2 (x := tvl B n q) (M := nI b) (n := b) (nI_toInt hb) h0x (Int32.not_lt.mp h2x)
  have et : tn B n q = j := by unfold tn; rw [ej, nI_clamp (by omega)]
  rw [et]
  refine ⟨by unfold tkV; rw [if_pos tb]; exact ej, ?_, hj, ej, ?_, tb⟩
  · rw [ej] at h1x; exact nlt (by omega) (by omega) h1x
  · unfold kP tkP; rw [if_pos ⟨tb, rfl⟩]
theorem mx_1 {a : Nat} (h : a < 2 ^ 31) : (if (1 : Int32) < nI a then nI a else 1) = nI (max 1 a) := by
  by_cases hm : 1 < a
  · have q : (1 : Int32) < nI a := (nI_lti (a := 1) (by decide) h).mpr hm
    rw [if_pos q, show max 1 a = a by omega]
  · have q : ¬ (1 : Int32) < nI a := fun e => hm ((nI_lti (a := 1) (by decide) h).mp e)
    rw [if_neg q, show max 1 a = 1 by omega]; rfl
def SRAt (sh : List (Nat × Nat)) (R : Nat → Nat → Option Nat) (s : Nat) : Prop := sh[6]? = some (8, 3) ∧ R 6 0 = some 1 ∧ R 6 1 = some s ∧ 9 ≤ s
def SF (I J : Nat → Nat → Int32) (s : Nat) : Prop := ∀ i k, (i ≠ 1 ∨ (k ≠ 2 ∧ k ≠ 7)) → (i < s ∨ s + 12 < i) → J i k = I i k
def SG (I J : Nat → Nat → Int32) (s : Nat) : Prop := ∀ i k, (i ≠ 1 ∨ (k ≠ 2 ∧ k ≠ 7)) → (i < s ∨ s + 12 < i) → (i ≠ 6 ∨ k ≠ 2) → J i k = I i k
theorem SF.of {J : Nat → Nat → Int32} (h : RdF I J) : SF I J s := fun i k q _ => h i k q
theorem SF.tr {J K : Nat → Nat → Int32} (h : SF I J s) (g : SF J K s) : SF I K s := fun i k q1x q2x => (g i k q1x q2x).trans (h i k q1x q2x)
theorem SF.sg {J : Nat → Nat → Int32} (h : SF I J s) : SG I J s := fun i k q1x q2x _ => h i k q1x q2x
theorem SG.tr {J K : Nat → Nat → Int32} (h : SG I J s) (g : SG J K s) : SG I K s := fun i k q1x q2x q3x => (g i k q1x q2x q3x).trans (h i k q1x q2x q3x)
theorem SeaS.fr {J : Nat → Nat → Int32} (h : SeaS I s u) (e : ∀ i k, s ≤ i → i ≤ s + 12 → J i k = I i k) : SeaS J s u :=
  ⟨h.1.fr e, h.2.1.fr e, fun k hk => (e _ _ (by omega) (by omega)).trans (h.2.2 k hk)⟩
theorem cs_takeCell (hT : TpAt sh R) (hA : SRAt sh R s) (hS : SeaAt sh R s) {E q : Nat} {f : Int32} {c : Nat} (hr : Rd I B n E q f) (h0x : I s 0 = nI c) (hc : 1 ≤ c) : Ec X 3 102 [.ref 6] (sh, I, L, R) (fun r h' => r = some (.int (tkV B n q (nI 0) (nI (c - 1)))) ∧ ∃ J : Nat → Nat → Int32, h' = (sh, J, L, R) ∧ Rd J B n E (kP B n q f 0 (c - 1)) (kF B n q f 0 (c - 1)) ∧ RdF I J) := by
  refine Ec.of (Nat.le_of_ble_eq_true rfl) ?_
  refine e_aload rfl rfl ?_
  refine e_getR rfl hA.1 hA.2.1 ?_
  refine e_ipush rfl ?_
  refine e_aload rfl rfl ?_
  refine e_getR rfl hA.1 hA.2.2.1 ?_
  refine e_getIv rfl hS.1 h0x ?_
  refine e_ipush rfl ?_
  refine e_isub rfl ?_
  rw [show (nI c) - 1 = nI (c - 1) from nI_sub (b := 1) hc]
  refine Eg.c3 rfl (by decide) (by decide) rfl (Nat.le_of_ble_eq_true rfl) (xrcv_of rfl hT.1 rfl) ((cs_takeNumber hT hr (lo := 0) (hi := nI (c - 1))).mono (by decide)) (fun r1x h1x hq => ?_)
  obtain ⟨rfl, J, rfl, r1x, f1x⟩ := hq
  exact Eg.ret rfl (by decide) rfl ⟨rfl, J, rfl, r1x, f1x⟩
theorem cs_readGround (hT : TpAt sh R) (hA : SRAt sh R s) (hS : SeaAt sh R s) {E q : Nat} (hr : Rd I B n E q 0) (hV : SeaS I s u) (hw : WfU u) (h2x : 2 ≤ cn u 0) {F1x F2x : Int32} {P1x P2x : Nat} (eF1x : kF B n q 0 0 (cn u 0 - 1) = F1x) (eP1x : kP B n q 0 0 (cn u 0 - 1) = P1x) (eF2x : kF B n P1x F1x 0 20 = F2x) (eP2x : kP B n P1x F1x 0 20 = P2x) : Ec X 4 104 [.ref 6] (sh, I, L, R) (fun r h' => r = none ∧ ∃ J : Nat → Nat → Int32, h' = (sh, J, L, R) ∧ Rd J B n E P2x F2x ∧ (F2x = 0 → SeaS J s (xu u 2 (tn B n q) (nI (tn B n P1x)))) ∧ SF I J s) := by
  have hn := hr.1.1
  have hq := hr.le
  have hb := hw.1.2
  have h9x := hA.2.2.2
  have c0x : I s 0 = nI (cn u 0) := hV.1.1 0 (by decide)
  refine Ec.of (Nat.le_of_ble_eq_true rfl) ?_
  refine e_aload rfl rfl ?_
  refine Eg.c1 rfl (by decide) (by decide) rfl (Nat.le_of_ble_eq_true rfl) (xrcv_of rfl hA.1 rfl) ((cs_takeCell hT hA hS hr c0x (by omega)).mono (by decide)) (fun r1x h1x hq => ?_)
  obtain ⟨rfl, J1x, rfl, r1x, f1x⟩ := hq
  have r1x : Rd J1x B n E P1x F1x := by rw [← eP1x, ← eF1x]; exact r1x
  refine e_istore rfl ?_
  refine e_aload rfl rfl ?_
  refine e_getR rfl hA.1 hA.2.1 ?_
  refine e_ipush rfl ?_
  refine e_ipush rfl ?_
  refine Eg.c3 rfl (by decide) (by decide) rfl (Nat.le_of_ble_eq_true rfl) (xrcv_of rfl hT.1 rfl) ((cs_takeNumber hT r1x (lo := 0) (hi := 20)).mono (by decide)) (fun r1x h1x hq => ?_)
  obtain ⟨rfl, J2x, rfl, r2x, f2x⟩ := hq
  have r2x : Rd J2x B n E P2x F2x := by rw [← eP2x, ← eF2x]; exact r2x
  refine e_istore rfl ?_
  refine e_aload rfl rfl ?_
  refine e_getR rfl hA.1 hA.2.1 ?_
  refine e_getIv rfl hT.1 r2x.2.2.1 ?_
  refine e_ifne_b rfl (fun b23x => ?_) (fun b23x => ?_)
  · exact Eg.ret rfl (by decide) rfl ⟨rfl, J2x, rfl, r2x, fun e => absurd e b23x, SF.of (f1x.tr f2x)⟩
  · have a1x : F1x = 0 := kF_0 (eF2x.trans b23x)
    have t1x := tk_get (B := B) hq hn (by omega) (by omega) (eF1x.trans a1x)
    have hq1x := r1x.le
    have t2x := tk_get (B := B) (f := F1x) (a := 0) (b := 20) hq1x hn (by omega) (by omega) (eF2x.trans b23x)
    refine e_aload rfl rfl ?_
    refine e_getR rfl hA.1 hA.2.2.1 ?_
    refine e_getR rfl hS.1 (hS.2 5 _ rfl).2 ?_
    refine e_iload rfl rfl ?_
    refine e_iload rfl rfl ?_
    refine e_iasJ (t := tn B n q) (n := 12) rfl (hS.2 5 _ rfl).1 t1x.1 (by omega) (by decide) (fun J11x g11x f11x => ?_)
    have v3x : SeaS J2x s u := hV.fr (fun i k q1x q2x => (f1x.tr f2x) i k (by omega))
    refine Eg.ret rfl (by decide) rfl ⟨rfl, J11x, rfl, r2x.any (fun i k hi => f11x i k (by omega)), fun _ => v3x.grn (g11x.trans t2x.1) (fun p r hp => f11x p r (by omega)), (SF.of (f1x.tr f2x)).tr (fun i k q1x q2x => f11x i k (by omega))⟩
theorem cs_readWell (hT : TpAt sh R) (hA : SRAt sh R s) (hS : SeaAt sh R s) {E q : Nat} (hr : Rd I B n E q 0) (hV : SeaS I s u) (hw : WfU u) (h2x : 2 ≤ cn u 0) (hlt : cn u 2 < 4) {F1x F2x F3x : Int32} {P1x P2x P3x : Nat} (eF1x : kF B n q 0 0 (cn u 0 - 1) = F1x) (eP1x : kP B n q 0 0 (cn u 0 - 1) = P1x) (eF2x : kF B n P1x F1x 0 60 = F2x) (eP2x : kP B n P1x F1x 0 60 = P2x) (eF3x : kF B n P2x F2x 1 99 = F3x) (eP3x : kP B n P2x F2x 1 99 = P3x) : Ec X 4 105 [.ref 6, .int (nI (cn u 2))] (sh, I, L, R) (fun r h' => r = none ∧ ∃ J : Nat → Nat → Int32, h' = (sh, J, L, R) ∧ Rd J B n E P3x F3x ∧ (F3x = 0 → SeaS J s (telF u 2 7 8 9 (nI (tn B n q)) (nI (tn B n P1x)) (nI (tn B n P2x)))) ∧ SF I J s) := by
  have hn := hr.1.1
  have hq := hr.le
  have hb := hw.1.2
  have h9x := hA.2.2.2
  have c0x : I s 0 = nI (cn u 0) := hV.1.1 0 (by decide)
  refine Ec.of (Nat.le_of_ble_eq_true rfl) ?_
  refine e_aload rfl rfl ?_
  refine Eg.c1 rfl (by decide) (by decide) rfl (Nat.le_of_ble_eq_true rfl) (xrcv_of rfl hA.1 rfl) ((cs_takeCell hT hA hS hr c0x (by omega)).mono (by decide)) (fun r1x h1x hq => ?_)
  obtain ⟨rfl, J1x, rfl, r1x, f1x⟩ := hq
  have r1x : Rd J1x B n E P1x F1x := by rw [← eP1x, ← eF1x]; exact r1x
  refine e_istore rfl ?_
  refine e_aload rfl rfl ?_
  refine e_getR rfl hA.1 hA.2.1 ?_
  refine e_ipush rfl ?_
  refine e_ipush rfl ?_
  refine Eg.c3 rfl (by decide) (by decide) rfl (Nat.le_of_ble_eq_true rfl) (xrcv_of rfl hT.1 rfl) ((cs_takeNumber hT r1x (lo := 0) (hi := 60)).mono (by decide)) (fun r1x h1x hq => ?_)
  obtain ⟨rfl, J2x, rfl, r2x, f2x⟩ := hq
  have r2x : Rd J2x B n E P2x F2x := by rw [← eP2x, ← eF2x]; exact r2x
  refine e_istore rfl ?_
  refine e_aload rfl rfl ?_
  refine e_getR rfl hA.1 hA.2.1 ?_
  refine e_ipush rfl ?_
  refine e_ipush rfl ?_
  refine Eg.c3 rfl (by decide) (by decide) rfl (Nat.le_of_ble_eq_true rfl) (xrcv_of rfl hT.1 rfl) ((cs_takeNumber hT r2x (lo := 1) (hi := 99)).mono (by decide)) (fun r1x h1x hq => ?_)
  obtain ⟨rfl, J3x, rfl, r3x, f3x⟩ := hq
  have r3x : Rd J3x B n E P3x F3x := by rw [← eP3x, ← eF3x]; exact r3x
  refine e_istore rfl ?_
  refine e_aload rfl rfl ?_
  refine e_getR rfl hA.1 hA.2.1 ?_
  refine e_getIv rfl hT.1 r3x.2.2.1 ?_
  refine e_ifeq_b rfl (fun b35x => ?_) (fun b35x => ?_)
  · have a2x : F2x = 0 := kF_0 (eF3x.trans b35x)
    have a1x : F1x = 0 := kF_0 (eF2x.trans a2x)
    have t1x := tk_get (B := B) hq hn (by omega) (by omega) (eF1x.trans a1x)
    have hq1x := r1x.le
    have hq2x := r2x.le
    have t2x := tk_get (B := B) (f := F1x) (a := 0) (b := 60) hq1x hn (by omega) (by omega) (eF2x.trans a2x)
    have t3x := tk_get (B := B) (f := F2x) (a := 1) (b := 99) hq2x hn (by omega) (by omega) (eF3x.trans b35x)
    refine e_aload rfl rfl ?_
    refine e_getR rfl hA.1 hA.2.2.1 ?_
    refine e_getR rfl hS.1 (hS.2 6 _ rfl).2 ?_
    refine e_iload rfl rfl ?_
    refine e_iload rfl rfl ?_
    refine e_iasJ (t := cn u 2) (n := 8) rfl (hS.2 6 _ rfl).1 rfl (by omega) (by decide) (fun J11x g11x f11x => ?_)
    refine e_aload rfl rfl ?_
    refine e_getR rfl hA.1 hA.2.2.1 ?_
    refine e_getR rfl hS.1 (hS.2 7 _ rfl).2 ?_
    refine e_iload rfl rfl ?_
    refine e_iload rfl rfl ?_
    refine e_iasJ (t := cn u 2) (n := 8) rfl (hS.2 7 _ rfl).1 rfl (by omega) (by decide) (fun J12x g12x f12x => ?_)
    refine e_aload rfl rfl ?_
    refine e_getR rfl hA.1 hA.2.2.1 ?_
    refine e_getR rfl hS.1 (hS.2 8 _ rfl).2 ?_
    refine e_iload rfl rfl ?_
    refine e_iload rfl rfl ?_
    refine e_iasJ (t := cn u 2) (n := 8) rfl (hS.2 8 _ rfl).1 rfl (by omega) (by decide) (fun J13x g13x f13x => ?_)
    refine e_iload rfl rfl ?_
    refine e_ipush rfl ?_
    refine e_cge_f rfl (nI_ge (b := 4) (by omega) (by decide)) ?_
    refine e_aload rfl rfl ?_
    refine e_getR rfl hA.1 hA.2.2.1 ?_
    refine e_dupr rfl ?_
    refine e_getIv rfl hS.1 ((f13x s 2 (Or.inl (by omega))).trans ((f12x s 2 (Or.inl (by omega))).trans ((f11x s 2 (Or.inl (by omega))).trans ((((f1x.tr f2x).tr f3x) s 2 (by omega)).trans (hV.1.1 2 (by decide)))))) ?_
    refine e_ipush rfl ?_
    refine e_iadd rfl ?_
    rw [show (nI (cn u 2)) + 1 = nI (cn u 2 + 1) from nI_1 _]
    refine e_putIJ rfl hS.1 (fun J14x g14x f14x => ?_)
    refine e_goto rfl ?_
    have v3x : SeaS J3x s u := hV.fr (fun i k q1x q2x => ((f1x.tr f2x).tr f3x) i k (by omega))
    refine Eg.ret rfl (by decide) rfl ⟨rfl, J14x, rfl, r3x.any (fun i k hi => ((f14x i k (by omega)).trans ((f13x i k (by omega)).trans ((f12x i k (by omega)).trans (f11x i k (by omega)))))), fun _ => v3x.wel hlt (by omega) (fun t ht => ⟨(hw.pers ht).1, (hw.pers ht).2.2⟩) ?_ ?_ ?_ g14x (fun i k q1x q2x q3x q4x => ((f14x i k (by omega)).trans ((f13x i k (by omega)).trans ((f12x i k (by omega)).trans (f11x i k (by omega)))))), (SF.of ((f1x.tr f2x).tr f3x)).tr (fun i k q1x q2x => ((f14x i k (by omega)).trans ((f13x i k (by omega)).trans ((f12x i k (by omega)).trans (f11x i k (by omega))))))⟩
    · exact (f14x _ _ (by omega)).trans ((f13x _ _ (by omega)).trans ((f12x _ _ (by omega)).trans (g11x.trans t1x.1)))
    · exact (f14x _ _ (by omega)).trans ((f13x _ _ (by omega)).trans (g12x.trans t2x.1))
    · exact (f14x _ _ (by omega)).trans (g13x.trans t3x.1)
  · exact Eg.ret rfl (by decide) rfl ⟨rfl, J3x, rfl, r3x, fun e => absurd e b35x, SF.of ((f1x.tr f2x).tr f3x)⟩
theorem cs_readTown (hT : TpAt sh R) (hA : SRAt sh R s) (hS : SeaAt sh R s) {E q : Nat} (hr : Rd I B n E q 0) (hV : SeaS I s u) (hw : WfU u) (h2x : 2 ≤ cn u 0) (hlt : cn u 3 < 4) {F1x F2x F3x : Int32} {P1x P2x P3x : Nat} (eF1x : kF B n q 0 0 (cn u 0 - 1) = F1x) (eP1x : kP B n q 0 0 (cn u 0 - 1) = P1x) (eF2x : kF B n P1x F1x 0 60 = F2x) (eP2x : kP B n P1x F1x 0 60 = P2x) (eF3x : kF B n P2x F2x 1 99 = F3x) (eP3x : kP B n P2x F2x 1 99 = P3x) : Ec X 4 105 [.ref 6, .int (nI (4 + cn u 3))] (sh, I, L, R) (fun r h' => r = none ∧ ∃ J : Nat → Nat → Int32, h' = (sh, J, L, R) ∧ Rd J B n E P3x F3x ∧ (F3x = 0 → SeaS J s (telF u 3 10 11 12 (nI (tn B n q)) (nI (tn B n P1x)) (nI (tn B n P2x)))) ∧ SF I J s) := by
  have hn := hr.1.1
  have hq := hr.le
  have hb := hw.1.2
  have h9x := hA.2.2.2
  have c0x : I s 0 = nI (cn u 0) := hV.1.1 0 (by decide)
  refine Ec.of (Nat.le_of_ble_eq_true rfl) ?_
  refine e_aload rfl rfl ?_
  refine Eg.c1 rfl (by decide) (by decide) rfl (Nat.le_of_ble_eq_true rfl) (xrcv_of rfl hA.1 rfl) ((cs_takeCell hT hA hS hr c0x (by omega)).mono (by decide)) (fun r1x h1x hq => ?_)
  obtain ⟨rfl, J1x, rfl, r1x, f1x⟩ := hq
  have r1x : Rd J1x B n E P1x F1x := by rw [← eP1x, ← eF1x]; exact r1x
  refine e_istore rfl ?_
  refine e_aload rfl rfl ?_
  refine e_getR rfl hA.1 hA.2.1 ?_
  refine e_ipush rfl ?_
  refine e_ipush rfl ?_
  refine Eg.c3 rfl (by decide) (by decide) rfl (Nat.le_of_ble_eq_true rfl) (xrcv_of rfl hT.1 rfl) ((cs_takeNumber hT r1x (lo := 0) (hi := 60)).mono (by decide)) (fun r1x h1x hq => ?_)
  obtain ⟨rfl, J2x, rfl, r2x, f2x⟩ := hq
  have r2x : Rd J2x B n E P2x F2x := by rw [← eP2x, ← eF2x]; exact r2x
  refine e_istore rfl ?_
  refine e_aload rfl rfl ?_
  refine e_getR rfl hA.1 hA.2.1 ?_
  refine e_ipush rfl ?_
  refine e_ipush rfl ?_
  refine Eg.c3 rfl (by decide) (by decide) rfl (Nat.le_of_ble_eq_true rfl) (xrcv_of rfl hT.1 rfl) ((cs_takeNumber hT r2x (lo := 1) (hi := 99)).mono (by decide)) (fun r1x h1x hq => ?_)
  obtain ⟨rfl, J3x, rfl, r3x, f3x⟩ := hq
  have r3x : Rd J3x B n E P3x F3x := by rw [← eP3x, ← eF3x]; exact r3x
  refine e_istore rfl ?_
  refine e_aload rfl rfl ?_
  refine e_getR rfl hA.1 hA.2.1 ?_
  refine e_getIv rfl hT.1 r3x.2.2.1 ?_
  refine e_ifeq_b rfl (fun b35x => ?_) (fun b35x => ?_)
  · have a2x : F2x = 0 := kF_0 (eF3x.trans b35x)
    have a1x : F1x = 0 := kF_0 (eF2x.trans a2x)
    have t1x := tk_get (B := B) hq hn (by omega) (by omega) (eF1x.trans a1x)
    have hq1x := r1x.le
    have hq2x := r2x.le
    have t2x := tk_get (B := B) (f := F1x) (a := 0) (b := 60) hq1x hn (by omega) (by omega) (eF2x.trans a2x)
    have t3x := tk_get (B := B) (f := F2x) (a := 1) (b := 99) hq2x hn (by omega) (by omega) (eF3x.trans b35x)
    refine e_aload rfl rfl ?_
    refine e_getR rfl hA.1 hA.2.2.1 ?_
    refine e_getR rfl hS.1 (hS.2 6 _ rfl).2 ?_
    refine e_iload rfl rfl ?_
    refine e_iload rfl rfl ?_
    refine e_iasJ (t := 4 + cn u 3) (n := 8) rfl (hS.2 6 _ rfl).1 rfl (by omega) (by decide) (fun J11x g11x f11x => ?_)
    refine e_aload rfl rfl ?_
    refine e_getR rfl hA.1 hA.2.2.1 ?_
    refine e_getR rfl hS.1 (hS.2 7 _ rfl).2 ?_
    refine e_iload rfl rfl ?_
    refine e_iload rfl rfl ?_
    refine e_iasJ (t := 4 + cn u 3) (n := 8) rfl (hS.2 7 _ rfl).1 rfl (by omega) (by decide) (fun J12x g12x f12x => ?_)
    refine e_aload rfl rfl ?_
    refine e_getR rfl hA.1 hA.2.2.1 ?_
    refine e_getR rfl hS.1 (hS.2 8 _ rfl).2 ?_
    refine e_iload rfl rfl ?_
    refine e_iload rfl rfl ?_
    refine e_iasJ (t := 4 + cn u 3) (n := 8) rfl (hS.2 8 _ rfl).1 rfl (by omega) (by decide) (fun J13x g13x f13x => ?_)
    refine e_iload rfl rfl ?_
    refine e_ipush rfl ?_
    refine e_cge_t rfl ((nI_lei (a := 4) (by decide) (by omega)).mpr (by omega)) ?_
    refine e_aload rfl rfl ?_
    refine e_getR rfl hA.1 hA.2.2.1 ?_
    refine e_dupr rfl ?_
    refine e_getIv rfl hS.1 ((f13x s 3 (Or.inl (by omega))).trans ((f12x s 3 (Or.inl (by omega))).trans ((f11x s 3 (Or.inl (by omega))).trans ((((f1x.tr f2x).tr f3x) s 3 (by omega)).trans (hV.1.1 3 (by decide)))))) ?_
    refine e_ipush rfl ?_
    refine e_iadd rfl ?_
    rw [show (nI (cn u 3)) + 1 = nI (cn u 3 + 1) from nI_1 _]
    refine e_putIJ rfl hS.1 (fun J14x g14x f14x => ?_)
    have v3x : SeaS J3x s u := hV.fr (fun i k q1x q2x => ((f1x.tr f2x).tr f3x) i k (by omega))
    refine Eg.ret rfl (by decide) rfl ⟨rfl, J14x, rfl, r3x.any (fun i k hi => ((f14x i k (by omega)).trans ((f13x i k (by omega)).trans ((f12x i k (by omega)).trans (f11x i k (by omega)))))), fun _ => v3x.twn (by omega) hlt (by omega) (fun t ht => ⟨(hw.pers ht).1, (hw.pers ht).2.2⟩) ?_ ?_ ?_ g14x (fun i k q1x q2x q3x q4x => ((f14x i k (by omega)).trans ((f13x i k (by omega)).trans ((f12x i k (by omega)).trans (f11x i k (by omega)))))), (SF.of ((f1x.tr f2x).tr f3x)).tr (fun i k q1x q2x => ((f14x i k (by omega)).trans ((f13x i k (by omega)).trans ((f12x i k (by omega)).trans (f11x i k (by omega))))))⟩
    · exact (f14x _ _ (by omega)).trans ((f13x _ _ (by omega)).trans ((f12x _ _ (by omega)).trans (g11x.trans t1x.1)))
    · exact (f14x _ _ (by omega)).trans ((f13x _ _ (by omega)).trans (g12x.trans t2x.1))
    · exact (f14x _ _ (by omega)).trans (g13x.trans t3x.1)
  · exact Eg.ret rfl (by decide) rfl ⟨rfl, J3x, rfl, r3x, fun e => absurd e b35x, SF.of ((f1x.tr f2x).tr f3x)⟩
theorem cs_readShip (hT : TpAt sh R) (hA : SRAt sh R s) (hS : SeaAt sh R s) {E q : Nat} (hr : Rd I B n E q 0) (hV : SeaS I s u) (hw : WfU u) (h2x : 2 ≤ cn u 0) (hlt : cn u 4 < 4) {F1x F2x F3x : Int32} {P1x P2x P3x : Nat} (eF1x : kF B n q 0 0 (cn u 0 - 1) = F1x) (eP1x : kP B n q 0 0 (cn u 0 - 1) = P1x) (eF2x : kF B n P1x F1x 1 30 = F2x) (eP2x : kP B n P1x F1x 1 30 = P2x) (eF3x : kF B n P2x F2x 0 20 = F3x) (eP3x : kP B n P2x F2x 0 20 = P3x) : Ec X 4 106 [.ref 6] (sh, I, L, R) (fun r h' => r = none ∧ ∃ J : Nat → Nat → Int32, h' = (sh, J, L, R) ∧ Rd J B n E P3x F3x ∧ (F3x = 0 → SeaS J s (telF u 4 13 15 16 (nI (tn B n q)) (nI (tn B n P1x)) (nI (tn B n P2x)))) ∧ SF I J s) := by
  have hn := hr.1.1
  have hq := hr.le
  have hb := hw.1.2
  have h9x := hA.2.2.2
  have c0x : I s 0 = nI (cn u 0) := hV.1.1 0 (by decide)
  refine Ec.of (Nat.le_of_ble_eq_true rfl) ?_
  refine e_aload rfl rfl ?_
  refine Eg.c1 rfl (by decide) (by decide) rfl (Nat.le_of_ble_eq_true rfl) (xrcv_of rfl hA.1 rfl) ((cs_takeCell hT hA hS hr c0x (by omega)).mono (by decide)) (fun r1x h1x hq => ?_)
  obtain ⟨rfl, J1x, rfl, r1x, f1x⟩ := hq
  have r1x : Rd J1x B n E P1x F1x := by rw [← eP1x, ← eF1x]; exact r1x
  refine e_istore rfl ?_
  refine e_aload rfl rfl ?_
  refine e_getR rfl hA.1 hA.2.1 ?_
  refine e_ipush rfl ?_
  refine e_ipush rfl ?_
  refine Eg.c3 rfl (by decide) (by decide) rfl (Nat.le_of_ble_eq_true rfl) (xrcv_of rfl hT.1 rfl) ((cs_takeNumber hT r1x (lo := 1) (hi := 30)).mono (by decide)) (fun r1x h1x hq => ?_)
  obtain ⟨rfl, J2x, rfl, r2x, f2x⟩ := hq
  have r2x : Rd J2x B n E P2x F2x := by rw [← eP2x, ← eF2x]; exact r2x
  refine e_istore rfl ?_
  refine e_aload rfl rfl ?_
  refine e_getR rfl hA.1 hA.2.1 ?_
  refine e_ipush rfl ?_
  refine e_ipush rfl ?_
  refine Eg.c3 rfl (by decide) (by decide) rfl (Nat.le_of_ble_eq_true rfl) (xrcv_of rfl hT.1 rfl) ((cs_takeNumber hT r2x (lo := 0) (hi := 20)).mono (by decide)) (fun r1x h1x hq => ?_)
  obtain ⟨rfl, J3x, rfl, r3x, f3x⟩ := hq
  have r3x : Rd J3x B n E P3x F3x := by rw [← eP3x, ← eF3x]; exact r3x
  refine e_istore rfl ?_
  refine e_aload rfl rfl ?_
  refine e_getR rfl hA.1 hA.2.1 ?_
  refine e_getIv rfl hT.1 r3x.2.2.1 ?_
  refine e_ifeq_b rfl (fun b34x => ?_) (fun b34x => ?_)
  · have a2x : F2x = 0 := kF_0 (eF3x.trans b34x)
    have a1x : F1x = 0 := kF_0 (eF2x.trans a2x)
    have t1x := tk_get (B := B) hq hn (by omega) (by omega) (eF1x.trans a1x)
    have hq1x := r1x.le
    have hq2x := r2x.le
    have t2x := tk_get (B := B) (f := F1x) (a := 1) (b := 30) hq1x hn (by omega) (by omega) (eF2x.trans a2x)
    have t3x := tk_get (B := B) (f := F2x) (a := 0) (b := 20) hq2x hn (by omega) (by omega) (eF3x.trans b34x)
    refine e_aload rfl rfl ?_
    refine e_getR rfl hA.1 hA.2.2.1 ?_
    refine e_getR rfl hS.1 (hS.2 9 _ rfl).2 ?_
    refine e_aload rfl rfl ?_
    refine e_getR rfl hA.1 hA.2.2.1 ?_
    refine e_getIv rfl hS.1 ((((f1x.tr f2x).tr f3x) s 4 (by omega)).trans (hV.1.1 4 (by decide))) ?_
    refine e_iload rfl rfl ?_
    refine e_iasJ (t := cn u 4) (n := 4) rfl (hS.2 9 _ rfl).1 rfl (by omega) (by decide) (fun J11x g11x f11x => ?_)
    refine e_aload rfl rfl ?_
    refine e_getR rfl hA.1 hA.2.2.1 ?_
    refine e_getR rfl hS.1 (hS.2 10 _ rfl).2 ?_
    refine e_aload rfl rfl ?_
    refine e_getR rfl hA.1 hA.2.2.1 ?_
    refine e_getIv rfl hS.1 ((f11x s 4 (Or.inl (by omega))).trans ((((f1x.tr f2x).tr f3x) s 4 (by omega)).trans (hV.1.1 4 (by decide)))) ?_
    refine e_iload rfl rfl ?_
    refine e_iasJ (t := cn u 4) (n := 4) rfl (hS.2 10 _ rfl).1 rfl (by omega) (by decide) (fun J12x g12x f12x => ?_)
    refine e_aload rfl rfl ?_
    refine e_getR rfl hA.1 hA.2.2.1 ?_
    refine e_getR rfl hS.1 (hS.2 11 _ rfl).2 ?_
    refine e_aload rfl rfl ?_
    refine e_getR rfl hA.1 hA.2.2.1 ?_
    refine e_getIv rfl hS.1 ((f12x s 4 (Or.inl (by omega))).trans ((f11x s 4 (Or.inl (by omega))).trans ((((f1x.tr f2x).tr f3x) s 4 (by omega)).trans (hV.1.1 4 (by decide))))) ?_
    refine e_iload rfl rfl ?_
    refine e_iasJ (t := cn u 4) (n := 4) rfl (hS.2 11 _ rfl).1 rfl (by omega) (by decide) (fun J13x g13x f13x => ?_)
    refine e_aload rfl rfl ?_
    refine e_getR rfl hA.1 hA.2.2.1 ?_
    refine e_dupr rfl ?_
    refine e_getIv rfl hS.1 ((f13x s 4 (Or.inl (by omega))).trans ((f12x s 4 (Or.inl (by omega))).trans ((f11x s 4 (Or.inl (by omega))).trans ((((f1x.tr f2x).tr f3x) s 4 (by omega)).trans (hV.1.1 4 (by decide)))))) ?_
    refine e_ipush rfl ?_
    refine e_iadd rfl ?_
    rw [show (nI (cn u 4)) + 1 = nI (cn u 4 + 1) from nI_1 _]
    refine e_putIJ rfl hS.1 (fun J14x g14x f14x => ?_)
    have v3x : SeaS J3x s u := hV.fr (fun i k q1x q2x => ((f1x.tr f2x).tr f3x) i k (by omega))
    refine Eg.ret rfl (by decide) rfl ⟨rfl, J14x, rfl, r3x.any (fun i k hi => ((f14x i k (by omega)).trans ((f13x i k (by omega)).trans ((f12x i k (by omega)).trans (f11x i k (by omega)))))), fun _ => v3x.shp hlt (by omega) (fun t ht => ⟨(hw.pers ht).1, (hw.pers ht).2.2⟩) ?_ ?_ ?_ g14x (fun i k q1x q2x q3x q4x => ((f14x i k (by omega)).trans ((f13x i k (by omega)).trans ((f12x i k (by omega)).trans (f11x i k (by omega)))))), (SF.of ((f1x.tr f2x).tr f3x)).tr (fun i k q1x q2x => ((f14x i k (by omega)).trans ((f13x i k (by omega)).trans ((f12x i k (by omega)).trans (f11x i k (by omega))))))⟩
    · exact (f14x _ _ (by omega)).trans ((f13x _ _ (by omega)).trans ((f12x _ _ (by omega)).trans (g11x.trans t1x.1)))
    · exact (f14x _ _ (by omega)).trans ((f13x _ _ (by omega)).trans (g12x.trans t2x.1))
    · exact (f14x _ _ (by omega)).trans (g13x.trans t3x.1)
  · exact Eg.ret rfl (by decide) rfl ⟨rfl, J3x, rfl, r3x, fun e => absurd e b34x, SF.of ((f1x.tr f2x).tr f3x)⟩
theorem cs_readStorm (hT : TpAt sh R) (hA : SRAt sh R s) (hS : SeaAt sh R s) {E q : Nat} (hr : Rd I B n E q 0) (hV : SeaS I s u) (hw : WfU u) {F1x F2x : Int32} {P1x P2x : Nat} (eF1x : kF B n q 0 0 9 = F1x) (eP1x : kP B n q 0 0 9 = P1x) (eF2x : kF B n P1x F1x (max 1 (tn B n q)) 9 = F2x) (eP2x : kP B n P1x F1x (max 1 (tn B n q)) 9 = P2x) : Ec X 3 107 [.ref 6] (sh, I, L, R) (fun r h' => r = none ∧ ∃ J : Nat → Nat → Int32, h' = (sh, J, L, R) ∧ Rd J B n E P2x F2x ∧ (F2x = 0 → SeaS J s (fStm u (nI (tn B n q)) (nI (tn B n P1x)))) ∧ SG I J s ∧ J 6 2 = 1) := by
  have hn := hr.1.1
  have hq := hr.le
  have hb := hw.1.2
  have h9x := hA.2.2.2
  have c0x : I s 0 = nI (cn u 0) := hV.1.1 0 (by decide)
  refine Ec.of (Nat.le_of_ble_eq_true rfl) ?_
  refine e_aload rfl rfl ?_
  refine e_getR rfl hA.1 hA.2.1 ?_
  refine e_ipush rfl ?_
  refine e_ipush rfl ?_
  refine Eg.c3 rfl (by decide) (by decide) rfl (Nat.le_of_ble_eq_true rfl) (xrcv_of rfl hT.1 rfl) ((cs_takeNumber hT hr (lo := 0) (hi := 9)).mono (by decide)) (fun r1x h1x hq => ?_)
  obtain ⟨rfl, J1x, rfl, r1x, f1x⟩ := hq
  have r1x : Rd J1x B n E P1x F1x := by rw [← eP1x, ← eF1x]; exact r1x
  refine e_istore rfl ?_
  refine e_aload rfl rfl ?_
  refine e_getR rfl hA.1 hA.2.1 ?_
  refine e_ipush rfl ?_
  refine e_iload rfl rfl ?_
  refine e_max rfl (Nat.le_of_ble_eq_true rfl) ?_
  rw [show (if 1 < tkV B n q 0 9 then tkV B n q 0 9 else 1) = (if 1 < tkV B n q 0 9 then tkV B n q 0 9 else 1) from rfl]
  refine e_ipush rfl ?_
  refine Eg.c3 rfl (by decide) (by decide) rfl (Nat.le_of_ble_eq_true rfl) (xrcv_of rfl hT.1 rfl) ((cs_takeNumber hT r1x (lo := (if 1 < tkV B n q 0 9 then tkV B n q 0 9 else 1)) (hi := 9)).mono (by decide)) (fun r1x h1x hq => ?_)
  obtain ⟨rfl, J2x, rfl, r2x, f2x⟩ := hq
  have r2x : Rd J2x B n E P2x F2x := by
    by_cases a1x : F1x = 0
    · have t1x := tk_get (B := B) (a := 0) (b := 9) hq hn (by decide) (by decide) (eF1x.trans a1x)
      have em : (if 1 < tkV B n q 0 9 then tkV B n q 0 9 else 1) = nI (max 1 (tn B n q)) := by
        have t10x : tkV B n q 0 9 = nI (tn B n q) := t1x.1
        rw [t10x]; exact mx_1 (by omega)
      rw [em] at r2x; rw [← eP2x, ← eF2x]; exact r2x
    · rw [← eP2x, ← eF2x, kF_n a1x]; unfold kP tkP; rw [if_neg (fun e => a1x e.2)]
      rw [tkF_n a1x] at r2x; unfold tkP at r2x; rw [if_neg (fun e => a1x e.2)] at r2x; exact r2x
  refine e_istore rfl ?_
  refine e_aload rfl rfl ?_
  refine e_getR rfl hA.1 hA.2.2.1 ?_
  refine e_iload rfl rfl ?_
  refine e_putIJ rfl hS.1 (fun J11x g11x f11x => ?_)
  refine e_aload rfl rfl ?_
  refine e_getR rfl hA.1 hA.2.2.1 ?_
  refine e_iload rfl rfl ?_
  refine e_putIJ rfl hS.1 (fun J12x g12x f12x => ?_)
  refine e_aload rfl rfl ?_
  refine e_ipush rfl ?_
  refine e_putZJ rfl hA.1 (by decide) (fun J13x g13x f13x => ?_)
  refine Eg.ret rfl (by decide) rfl ⟨rfl, J13x, rfl, r2x.any (fun i k hi => ((f13x i k (by omega)).trans ((f12x i k (by omega)).trans (f11x i k (by omega))))), fun e2x => ?_, (SF.of (f1x.tr f2x)).sg.tr (fun i k q1x q2x q3x => ((f13x i k (by omega)).trans ((f12x i k (by omega)).trans (f11x i k (by omega))))), g13x⟩
  have a1x : F1x = 0 := kF_0 (eF2x.trans e2x)
  have t1x := tk_get (B := B) (a := 0) (b := 9) hq hn (by decide) (by decide) (eF1x.trans a1x)
  have hq1x := r1x.le
  have t2x := tk_get (B := B) (f := F1x) (a := max 1 (tn B n q)) (b := 9) hq1x hn (by omega) (by decide) (eF2x.trans e2x)
  have v2x : SeaS J2x s u := hV.fr (fun i k q1x q2x => (f1x.tr f2x) i k (by omega))
  have ev : tkV B n P1x (if 1 < tkV B n q 0 9 then tkV B n q 0 9 else 1) 9 = nI (tn B n P1x) := by
    have t10x : tkV B n q 0 9 = nI (tn B n q) := t1x.1
    have em : (if 1 < tkV B n q 0 9 then tkV B n q 0 9 else 1) = nI (max 1 (tn B n q)) := by
      rw [t10x]; exact mx_1 (by omega)
    rw [em]; exact t2x.1
  have v4x : SeaS J12x s (fStm u (nI (tn B n q)) (nI (tn B n P1x))) := v2x.stm (by omega) (by omega) ((f12x s 17 (by omega)).trans (g11x.trans t1x.1)) (g12x.trans ev) (fun i k hp => (f12x i k (by omega)).trans (f11x i k (by omega)))
  exact v4x.fr (fun i k q1x q2x => f13x i k (by omega))
theorem cs_addTrain (hS : SeaAt sh R s) (hV : SeaS I s u) (hw : WfU u) (hlt : cn u 1 < 3) {a b k : Nat} (hk2x : 2 ≤ k) (hk : k ≤ 20) : Ec X 2 88 [.ref s, .int (nI a), .int (nI b), .int (nI k)] (sh, I, L, R) (fun r h' => r = none ∧ ∃ J : Nat → Nat → Int32, h' = (sh, J, L, R) ∧ J (s + 1) (cn u 1) = nI a ∧ J (s + 2) (cn u 1) = nI b ∧ J (s + 3) (cn u 1) = nI k ∧ J (s + 4) (cn u 1) = 0 ∧ J s 1 = nI (cn u 1 + 1) ∧ J s 19 = nI (rndN u / Nat.gcd (rndN u) k * k) ∧ ∀ p q, ¬ (p = s + 1 ∧ q = cn u 1) → ¬ (p = s + 2 ∧ q = cn u 1) → ¬ (p = s + 3 ∧ q = cn u 1) → ¬ (p = s + 4 ∧ q = cn u 1) → ¬ (p = s ∧ q = 1) → ¬ (p = s ∧ q = 19) → J p q = I p q) := by
  have c1x : I s 1 = nI (cn u 1) := hV.1.1 1 (by decide)
  have c19x : I s 19 = nI (rndN u) := hV.2.1.1
  obtain ⟨d1x, d2x⟩ := hw.rnd
  have hg : 0 < Nat.gcd (rndN u) k := Nat.gcd_pos_of_pos_left _ (by omega)
  have hg2x : Nat.gcd (rndN u) k ≤ rndN u := Nat.gcd_le_left _ (by omega)
  refine Ec.of (Nat.le_of_ble_eq_true rfl) ?_
  refine e_aload rfl rfl ?_
  refine e_getR rfl hS.1 (hS.2 0 _ rfl).2 ?_
  refine e_aload rfl rfl ?_
  refine e_getIv rfl hS.1 c1x ?_
  refine e_iload rfl rfl ?_
  refine e_iasJ (t := cn u 1) (n := 3) rfl (hS.2 0 _ rfl).1 rfl (by omega) (by decide) (fun J1x g1x f1x => ?_)
  refine e_aload rfl rfl ?_
  refine e_getR rfl hS.1 (hS.2 1 _ rfl).2 ?_
  refine e_aload rfl rfl ?_
  refine e_getIv rfl hS.1 ((f1x s 1 (Or.inl (by omega))).trans c1x) ?_
  refine e_iload rfl rfl ?_
  refine e_iasJ (t := cn u 1) (n := 3) rfl (hS.2 1 _ rfl).1 rfl (by omega) (by decide) (fun J2x g2x f2x => ?_)
  refine e_aload rfl rfl ?_
  refine e_getR rfl hS.1 (hS.2 2 _ rfl).2 ?_
  refine e_aload rfl rfl ?_
  refine e_getIv rfl hS.1 ((f2x s 1 (Or.inl (by omega))).trans ((f1x s 1 (Or.inl (by omega))).trans c1x)) ?_
  refine e_iload rfl rfl ?_
  refine e_iasJ (t := cn u 1) (n := 3) rfl (hS.2 2 _ rfl).1 rfl (by omega) (by decide) (fun J3x g3x f3x => ?_)
  refine e_aload rfl rfl ?_
  refine e_getR rfl hS.1 (hS.2 3 _ rfl).2 ?_
  refine e_aload rfl rfl ?_
  refine e_getIv rfl hS.1 ((f3x s 1 (Or.inl (by omega))).trans ((f2x s 1 (Or.inl (by omega))).trans ((f1x s 1 (Or.inl (by omega))).trans c1x))) ?_
  refine e_ipush rfl ?_
  refine e_iasJ (t := cn u 1) (n := 3) rfl (hS.2 3 _ rfl).1 rfl (by omega) (by decide) (fun J4x g4x f4x => ?_)
  refine e_aload rfl rfl ?_
  refine e_dupr rfl ?_
  refine e_getIv rfl hS.1 ((f4x s 1 (Or.inl (by omega))).trans ((f3x s 1 (Or.inl (by omega))).trans ((f2x s 1 (Or.inl (by omega))).trans ((f1x s 1 (Or.inl (by omega))).trans c1x)))) ?_
  refine e_ipush rfl ?_
  refine e_iadd rfl ?_
  rw [show (nI (cn u 1)) + 1 = nI (cn u 1 + 1) from nI_1 _]
  refine e_putIJ rfl hS.1 (fun J5x g5x f5x => ?_)
  refine e_aload rfl rfl ?_
  refine e_getIv rfl hS.1 ((f5x s 19 (Or.inr (by decide))).trans ((f4x s 19 (Or.inl (by omega))).trans ((f3x s 19 (Or.inl (by omega))).trans ((f2x s 19 (Or.inl (by omega))).trans ((f1x s 19 (Or.inl (by omega))).trans c19x))))) ?_
  refine e_i2l rfl ?_
  rw [nI_l (n := rndN u) (by omega)]
  refine e_iload rfl rfl ?_
  refine e_i2l rfl ?_
  rw [nI_l (n := k) (by omega)]
  refine Eg.p2 rfl (by decide) (by decide) rfl (Nat.le_of_ble_eq_true rfl) (xrcv_ofs (Or.inr rfl)) ((cs_common (x := rndN u) (y := k) (by omega) (by omega)).mono (by decide)) ?_
  refine e_l2i rfl ?_
  rw [lN_i]
  refine e_istore rfl ?_
  refine e_iload rfl rfl ?_
  refine e_ifle_f rfl (fun e => absurd ((nI_le0 (by omega)).mp e) (by omega)) ?_
  refine e_aload rfl rfl ?_
  refine e_aload rfl rfl ?_
  refine e_getIv rfl hS.1 ((f5x s 19 (Or.inr (by decide))).trans ((f4x s 19 (Or.inl (by omega))).trans ((f3x s 19 (Or.inl (by omega))).trans ((f2x s 19 (Or.inl (by omega))).trans ((f1x s 19 (Or.inl (by omega))).trans c19x))))) ?_
  refine e_iload rfl rfl ?_
  refine e_idiv rfl (nI_ne0 hg (by omega)) ?_
  rw [show (nI (rndN u)) / (nI (Nat.gcd (rndN u) k)) = nI (rndN u / Nat.gcd (rndN u) k) from nI_div (by omega) (by omega)]
  refine e_iload rfl rfl ?_
  refine e_imul rfl ?_
  rw [show (nI (rndN u / Nat.gcd (rndN u) k)) * (nI k) = nI (rndN u / Nat.gcd (rndN u) k * k) from nI_times _ _]
  refine e_putIJ rfl hS.1 (fun J6x g6x f6x => ?_)
  exact Eg.ret rfl (by decide) rfl ⟨rfl, J6x, rfl, ((f6x _ _ (by omega)).trans ((f5x _ _ (by omega)).trans ((f4x _ _ (by omega)).trans ((f3x _ _ (by omega)).trans ((f2x _ _ (by omega)).trans g1x))))), ((f6x _ _ (by omega)).trans ((f5x _ _ (by omega)).trans ((f4x _ _ (by omega)).trans ((f3x _ _ (by omega)).trans g2x)))), ((f6x _ _ (by omega)).trans ((f5x _ _ (by omega)).trans ((f4x _ _ (by omega)).trans g3x))), ((f6x _ _ (by omega)).trans ((f5x _ _ (by omega)).trans g4x)), ((f6x _ _ (by omega)).trans g5x), g6x, fun p q h1x h2x h3x h4x h5x h6x => ((f6x p q (by omega)).trans ((f5x p q (by omega)).trans ((f4x p q (by omega)).trans ((f3x p q (by omega)).trans ((f2x p q (by omega)).trans (f1x p q (by omega)))))))⟩
theorem cs_setRow (hS : SeaAt sh R s) {t i : Nat} {x z : Int32} (ht : t < 3) (hi : i < 20) (h4x : I (s + 4) t = z) : Ec X 1 89 [.ref s, .int (nI t), .int (nI i), .int x] (sh, I, L, R) (fun r h' => r = none ∧ ∃ J : Nat → Nat → Int32, h' = (sh, J, L, R) ∧ J (s + 5) (20 * t + i) = x ∧ J (s + 4) t = (if z < x then x else z) ∧ ∀ p q, ¬ (p = s + 5 ∧ q = 20 * t + i) → ¬ (p = s + 4 ∧ q = t) → J p q = I p q) := by
  refine Ec.of (Nat.le_of_ble_eq_true rfl) ?_
  refine e_aload rfl rfl ?_
  refine e_getR rfl hS.1 (hS.2 4 _ rfl).2 ?_
  refine e_iload rfl rfl ?_
  refine e_ipush rfl ?_
  refine e_imul rfl ?_
  rw [show (nI t) * 20 = nI (20 * t) from (show nI t * nI 20 = _ by rw [nI_times, Nat.mul_comm])]
  refine e_iload rfl rfl ?_
  refine e_iadd rfl ?_
  rw [show (nI (20 * t)) + (nI i) = nI (20 * t + i) from nI_add _ _]
  refine e_iload rfl rfl ?_
  refine e_iasJ (t := 20 * t + i) (n := 60) rfl (hS.2 4 _ rfl).1 rfl (by omega) (by decide) (fun J1x g1x f1x => ?_)
  refine e_aload rfl rfl ?_
  refine e_getR rfl hS.1 (hS.2 3 _ rfl).2 ?_
  refine e_iload rfl rfl ?_
  refine e_aload rfl rfl ?_
  refine e_getR rfl hS.1 (hS.2 3 _ rfl).2 ?_
  refine e_iload rfl rfl ?_
  refine e_ialv (t := t) (n := 3) rfl (hS.2 3 _ rfl).1 rfl (by omega) (by decide) ((f1x (s + 4) t (Or.inl (by omega))).trans h4x) ?_
  refine e_iload rfl rfl ?_
  refine e_max rfl (Nat.le_of_ble_eq_true rfl) ?_
  refine e_iasJ (t := t) (n := 3) rfl (hS.2 3 _ rfl).1 rfl (by omega) (by decide) (fun J2x g2x f2x => ?_)
  exact Eg.ret rfl (by decide) rfl ⟨rfl, J2x, rfl, (f2x _ _ (by omega)).trans g1x, g2x, fun p q h1x h2x => (f2x p q (by omega)).trans (f1x p q (by omega))⟩
/-- a row of digits: how many, its fault -/
def rwN (B : Nat → Nat) (n p : Nat) : Nat := if tknd B n p = 2 then dend B n p - p else 0
def rwF (B : Nat → Nat) (n p : Nat) (f : Int32) : Int32 := if rwN B n p = 0 then fl f p 0 else if rwN B n p < 2 ∨ 20 < rwN B n p then fl f p 1 else f
theorem rwF_n {p : Nat} {f : Int32} (h : ¬ f = 0) : rwF B n p f = f := by
  unfold rwF; rw [fl_n h, fl_n h]; simp
theorem rwN_le {p : Nat} (hp : p ≤ n) : rwN B n p ≤ n := by
  unfold rwN; split
  · have := (dend_le (B := B) (n := n) (p := p)).2 hp; omega
  · omega
theorem rwF_0 {p : Nat} {f : Int32} (hp : p ≤ n) (hn : n ≤ 400) (h : rwF B n p f = 0) : f = 0 ∧ 2 ≤ rwN B n p ∧ rwN B n p ≤ 20 ∧ tknd B n p = 2 ∧ rwN B n p = dend B n p - p := by
  have ef : f = 0 := Decidable.byContradiction (fun e => e (by rw [rwF_n e] at h; exact h))
  subst ef
  unfold rwF at h
  by_cases h0x : rwN B n p = 0
  · rw [if_pos h0x] at h; exact absurd h (fl_ne (by omega))
  · rw [if_neg h0x] at h
    by_cases h1x : rwN B n p < 2 ∨ 20 < rwN B n p
    · rw [if_pos h1x] at h; exact absurd h (fl_ne (by omega))
    · have ht : tknd B n p = 2 := Decidable.byContradiction (fun e => h0x (if_neg e))
      exact ⟨rfl, by omega, by omega, ht, if_pos ht⟩
theorem cs_readTrain (hT : TpAt sh R) (hA : SRAt sh R s) (hS : SeaAt sh R s) {E q : Nat} (hr : Rd I B n E q 0) (hV : SeaS I s u) (hw : WfU u) (hlt : cn u 1 < 3) {F1x F2x : Int32} {P1x P2x : Nat} (eF1x : kF B n q 0 0 9 = F1x) (eP1x : kP B n q 0 0 9 = P1x) (eF2x : kF B n P1x F1x 0 29 = F2x) (eP2x : kP B n P1x F1x 0 29 = P2x) : Ec X 4 103 [.ref 6] (sh, I, L, R) (fun r h' => r = none ∧ ∃ J : Nat → Nat → Int32, h' = (sh, J, L, R) ∧ Rd J B n E (if rwF B n P2x F2x = 0 then nxt B n P2x else P2x) (rwF B n P2x F2x) ∧ (rwF B n P2x F2x = 0 → SeaS J s (fTrn u (nI (tn B n q)) (nI (tn B n P1x)) (rwN B n P2x) (fun i => nI (B (P2x + i) - 48)))) ∧ SF I J s) := by
  have hn := hr.1.1
  have hq := hr.le
  have hb := hw.1.2
  have h9x := hA.2.2.2
  have c0x : I s 0 = nI (cn u 0) := hV.1.1 0 (by decide)
  refine Ec.of (Nat.le_of_ble_eq_true rfl) ?_
  refine e_aload rfl rfl ?_
  refine e_getR rfl hA.1 hA.2.1 ?_
  refine e_ipush rfl ?_
  refine e_ipush rfl ?_
  refine Eg.c3 rfl (by decide) (by decide) rfl (Nat.le_of_ble_eq_true rfl) (xrcv_of rfl hT.1 rfl) ((cs_takeNumber hT hr (lo := 0) (hi := 9)).mono (by decide)) (fun r1x h1x hq => ?_)
  obtain ⟨rfl, J1x, rfl, r1x, f1x⟩ := hq
  have r1x : Rd J1x B n E P1x F1x := by rw [← eP1x, ← eF1x]; exact r1x
  refine e_istore rfl ?_
  refine e_aload rfl rfl ?_
  refine e_getR rfl hA.1 hA.2.1 ?_
  refine e_ipush rfl ?_
  refine e_ipush rfl ?_
  refine Eg.c3 rfl (by decide) (by decide) rfl (Nat.le_of_ble_eq_true rfl) (xrcv_of rfl hT.1 rfl) ((cs_takeNumber hT r1x (lo := 0) (hi := 29)).mono (by decide)) (fun r1x h1x hq => ?_)
  obtain ⟨rfl, J2x, rfl, r2x, f2x⟩ := hq
  have r2x : Rd J2x B n E P2x F2x := by rw [← eP2x, ← eF2x]; exact r2x
  refine e_istore rfl ?_
  refine e_aload rfl rfl ?_
  refine e_getR rfl hA.1 hA.2.1 ?_
  refine Eg.p1 rfl (by decide) (by decide) rfl (Nat.le_of_ble_eq_true rfl) (xrcv_of rfl hT.1 rfl) ((cs_digitsHere hT r2x).mono (by decide)) ?_
  have hq2x := r2x.le
  have hrl := rwN_le (B := B) hq2x
  have edg : (if tknd B n P2x = 2 then nI (dend B n P2x - P2x) else 0) = nI (rwN B n P2x) := by unfold rwN; split <;> rfl
  rw [edg]
  refine e_istore rfl ?_
  refine e_iload rfl rfl ?_
  refine e_ifne_b rfl (fun b31x => ?_) (fun b31x => ?_)
  · have b31x : ¬ rwN B n P2x = 0 := fun e => b31x (by rw [e]; rfl)
    refine e_iload rfl rfl ?_
    refine e_ipush rfl ?_
    refine e_clt_b rfl (fun b47x => ?_) (fun b47x => ?_)
    · have b47x : rwN B n P2x < 2 := (nI_lti (b := 2) (by omega) (by decide)).mp b47x
      refine e_aload rfl rfl ?_
      refine e_getR rfl hA.1 hA.2.1 ?_
      refine e_ipush rfl ?_
      refine Eg.c2 rfl (by decide) (by decide) rfl (Nat.le_of_ble_eq_true rfl) (xrcv_of rfl hT.1 rfl) ((cs_fail hT r2x (k := 1)).mono (by decide)) (fun r1x h1x hq => ?_)
      obtain ⟨rfl, J3x, rfl, r3x, f3x⟩ := hq
      refine e_aload rfl rfl ?_
      refine e_getR rfl hA.1 hA.2.1 ?_
      have eR : rwF B n P2x F2x = fl F2x P2x 1 := by unfold rwF; rw [if_neg b31x, if_pos (Or.inl b47x)]
      refine e_getIv rfl hT.1 r3x.2.2.1 ?_
      refine e_ifeq_b rfl (fun b71x => ?_) (fun b71x => ?_)
      · exact absurd (eR.trans b71x) (fun e => by have := (rwF_0 hq2x hn e).2; omega)
      · exact Eg.ret rfl (by decide) rfl ⟨rfl, J3x, rfl, by rw [eR, if_neg b71x]; exact r3x, fun e => absurd (eR.symm.trans e) b71x, SF.of ((f1x.tr f2x).tr f3x)⟩
    · have b47x := nlt (b := 2) (by omega) (by decide) b47x
      refine e_iload rfl rfl ?_
      refine e_ipush rfl ?_
      refine e_cle_b rfl (fun b53x => ?_) (fun b53x => ?_)
      · have b53x := (nI_lei (b := 20) (by omega) (by decide)).mp b53x
        refine e_aload rfl rfl ?_
        refine e_getR rfl hA.1 hA.2.1 ?_
        have eR : rwF B n P2x F2x = F2x := by unfold rwF; rw [if_neg b31x, if_neg (by omega)]
        refine e_getIv rfl hT.1 r2x.2.2.1 ?_
        refine e_ifeq_b rfl (fun b71x => ?_) (fun b71x => ?_)
        · have eR0x : rwF B n P2x F2x = 0 := eR.trans b71x
          obtain ⟨-, w2x, w20x, wt, wd⟩ := rwF_0 hq2x hn eR0x
          have hdl := (dend_le (B := B) (n := n) (p := P2x)).2 hq2x
          have a1x : F1x = 0 := kF_0 (eF2x.trans b71x)
          have t1x := tk_get (B := B) (a := 0) (b := 9) hq hn (by decide) (by decide) (eF1x.trans a1x)
          have hq1x := r1x.le
          have t2x := tk_get (B := B) (f := F1x) (a := 0) (b := 29) hq1x hn (by decide) (by decide) (eF2x.trans b71x)
          have v2x : SeaS J2x s u := hV.fr (fun i k q1x q2x => (f1x.tr f2x) i k (by omega))
          have c1x : J2x s 1 = nI (cn u 1) := v2x.1.1 1 (by decide)
          have t10x : tkV B n q 0 9 = nI (tn B n q) := t1x.1
          have t20x : tkV B n P1x 0 29 = nI (tn B n P1x) := t2x.1
          refine e_aload rfl rfl ?_
          refine e_getR rfl hA.1 hA.2.2.1 ?_
          refine e_getIv rfl hS.1 c1x ?_
          refine e_istore rfl ?_
          refine e_aload rfl rfl ?_
          refine e_getR rfl hA.1 hA.2.2.1 ?_
          refine e_iload rfl rfl ?_
          refine e_iload rfl rfl ?_
          refine e_iload rfl rfl ?_
          rw [t10x, t20x]
          refine Eg.c4 rfl (by decide) (by decide) rfl (Nat.le_of_ble_eq_true rfl) (xrcv_of rfl hS.1 rfl) ((cs_addTrain hS v2x hw hlt (a := tn B n q) (b := tn B n P1x) (k := rwN B n P2x) w2x w20x).mono (by decide)) (fun r1x h1x hq => ?_)
          obtain ⟨rfl, J4x, rfl, x1x, x2x, x3x, x4x, x5x, x6x, x7x⟩ := hq
          refine e_ipush rfl ?_
          refine e_istore rfl ?_
          refine Eg.pk [0, 3, 4, 5] [5, 4, 3, 2, 1, 0] rfl (by decide) ?_
          refine up_ind (p := fun j => ∀ K : Nat → Nat → Int32, (∀ i, i < j → K (s + 5) (20 * cn u 1 + i) = nI (B (P2x + i) - 48)) → K (s + 4) (cn u 1) = itN (fun i z => if z < nI (B (P2x + i) - 48) then nI (B (P2x + i) - 48) else z) 0 j → (∀ p q, ¬ (p = s + 4 ∧ q = cn u 1) → ¬ (p = s + 5 ∧ 20 * cn u 1 ≤ q ∧ q < 20 * cn u 1 + j) → K p q = J4x p q) → Eg X xTc 3 103 97 [(0, .ref 6), (3, .int (nI (rwN B n P2x))), (4, .int (nI (cn u 1))), (5, .int (nI j))] [] (sh, K, L, R) (fun r h' => r = none ∧ ∃ J : Nat → Nat → Int32, h' = (sh, J, L, R) ∧ Rd J B n E (if rwF B n P2x F2x = 0 then nxt B n P2x else P2x) (rwF B n P2x F2x) ∧ (rwF B n P2x F2x = 0 → SeaS J s (fTrn u (nI (tn B n q)) (nI (tn B n P1x)) (rwN B n P2x) (fun i => nI (B (P2x + i) - 48)))) ∧ SF I J s)) (n := rwN B n P2x) (j := 0) (fun j hj ih => ?_) ?_ (Nat.zero_le _) J4x (fun i hi => absurd hi (by omega)) x4x (fun p q _ _ => rfl)
          · intro K k1x k2x k3x
            have kI : ∀ p q, p < s → K p q = J2x p q := fun p q hp => (k3x p q (by omega) (by omega)).trans (x7x p q (by omega) (by omega) (by omega) (by omega) (by omega) (by omega))
            have kr : Rd K B n E P2x F2x := r2x.any (fun i k hi => kI i k (by omega))
            have hdj : isD (B (P2x + j)) = true := dend_in (n := n) (p := P2x) (by omega) (by omega)
            have hd2x := isD_iff.mp hdj
            have kb : K 2 (P2x + j) = nI (B (P2x + j)) := (kr.1.2.2 (P2x + j) (by omega)).1
            refine e_iload rfl rfl ?_
            refine e_iload rfl rfl ?_
            refine e_cge_f rfl (nI_ge hj (by omega)) ?_
            refine e_aload rfl rfl ?_
            refine e_getR rfl hA.1 hA.2.2.1 ?_
            refine e_iload rfl rfl ?_
            refine e_iload rfl rfl ?_
            refine e_aload rfl rfl ?_
            refine e_getR rfl hA.1 hA.2.1 ?_
            refine e_getR rfl hT.1 hT.2.2.2.2.2.1 ?_
            refine e_aload rfl rfl ?_
            refine e_getR rfl hA.1 hA.2.1 ?_
            refine Eg.p1 rfl (by decide) (by decide) rfl (Nat.le_of_ble_eq_true rfl) (xrcv_of rfl hT.1 rfl) ((cs_placeHere hT kr).mono (by decide)) ?_
            refine e_iload rfl rfl ?_
            refine e_iadd rfl ?_
            rw [show (nI P2x) + (nI j) = nI (P2x + j) from nI_add _ _]
            refine e_ialv (t := P2x + j) (n := 400) rfl hT.2.1 rfl (by omega) (by decide) kb ?_
            refine e_ipush rfl ?_
            refine e_isub rfl ?_
            rw [show (nI (B (P2x + j))) - 48 = nI (B (P2x + j) - 48) from nI_sub (b := 48) hd2x.1]
            refine Eg.c4 rfl (by decide) (by decide) rfl (Nat.le_of_ble_eq_true rfl) (xrcv_of rfl hS.1 rfl) ((cs_setRow hS (t := cn u 1) (i := j) (x := nI (B (P2x + j) - 48)) hlt (by omega) k2x).mono (by decide)) (fun r1x h1x hq => ?_)
            obtain ⟨rfl, K2x, rfl, y1x, y2x, y3x⟩ := hq
            refine e_iinc rfl rfl ?_
            refine e_goto rfl ?_
            refine Eg.pk [0, 3, 4, 5] [5, 0, 3, 4] rfl (by decide) ?_
            rw [nI_1]
            refine ih K2x (fun i hi => ?_) y2x (fun p q q1x q2x => (y3x p q (by omega) (by omega)).trans (k3x p q (by omega) (by omega)))
            by_cases e : i = j
            · subst e; exact y1x
            · exact (y3x _ _ (by omega) (by omega)).trans (k1x i (by omega))
          · intro K k1x k2x k3x
            have kI : ∀ p q, p < s → K p q = J2x p q := fun p q hp => (k3x p q (by omega) (by omega)).trans (x7x p q (by omega) (by omega) (by omega) (by omega) (by omega) (by omega))
            have kr : Rd K B n E P2x F2x := r2x.any (fun i k hi => kI i k (by omega))
            refine e_iload rfl rfl ?_
            refine e_iload rfl rfl ?_
            refine e_cge_t rfl (Int32.le_refl _) ?_
            refine e_aload rfl rfl ?_
            refine e_getR rfl hA.1 hA.2.1 ?_
            refine Eg.c1 rfl (by decide) (by decide) rfl (Nat.le_of_ble_eq_true rfl) (xrcv_of rfl hT.1 rfl) ((cs_step hT kr).mono (by decide)) (fun r1x h1x hq => ?_)
            obtain ⟨rfl, K2x, rfl, r4x, f4x⟩ := hq
            refine Eg.ret rfl (by decide) rfl ⟨rfl, K2x, rfl, ?_, fun _ => ?_, fun i k q1x q2x => ?_⟩
            · rw [eR0x, if_pos rfl]; rw [b71x] at r4x; exact r4x
            · have vK : SeaS K s (fTrn u (nI (tn B n q)) (nI (tn B n P1x)) (rwN B n P2x) (fun i => nI (B (P2x + i) - 48))) := by
                refine v2x.trn hlt w2x w20x (fun t ht => (hw.pers ht).2.2) ?_ ?_ ?_ k1x k2x ?_ ?_ (fun p q q1x q2x q3x q4x q5x q6x q7x => (k3x p q (by omega) (by omega)).trans (x7x p q (by omega) (by omega) (by omega) (by omega) (by omega) (by omega)))
                · exact (k3x _ _ (by omega) (by omega)).trans x1x
                · exact (k3x _ _ (by omega) (by omega)).trans x2x
                · exact (k3x _ _ (by omega) (by omega)).trans x3x
                · exact (k3x _ _ (by omega) (by omega)).trans x6x
                · exact (k3x _ _ (by omega) (by omega)).trans x5x
              exact vK.fr (fun i k q1x q2x => f4x i k (by omega))
            · have e1x : K2x i k = K i k := f4x i k q1x
              have e2x : K i k = J2x i k := (k3x i k (by omega) (by omega)).trans (x7x i k (by omega) (by omega) (by omega) (by omega) (by omega) (by omega))
              exact e1x.trans (e2x.trans ((f1x.tr f2x) i k q1x))
        · exact Eg.ret rfl (by decide) rfl ⟨rfl, J2x, rfl, by rw [eR, if_neg b71x]; exact r2x, fun e => absurd (eR.symm.trans e) b71x, SF.of (f1x.tr f2x)⟩
      · have b53x := nle (b := 20) (by omega) (by decide) b53x
        refine e_aload rfl rfl ?_
        refine e_getR rfl hA.1 hA.2.1 ?_
        refine e_ipush rfl ?_
        refine Eg.c2 rfl (by decide) (by decide) rfl (Nat.le_of_ble_eq_true rfl) (xrcv_of rfl hT.1 rfl) ((cs_fail hT r2x (k := 1)).mono (by decide)) (fun r1x h1x hq => ?_)
        obtain ⟨rfl, J3x, rfl, r3x, f3x⟩ := hq
        refine e_aload rfl rfl ?_
        refine e_getR rfl hA.1 hA.2.1 ?_
        have eR : rwF B n P2x F2x = fl F2x P2x 1 := by unfold rwF; rw [if_neg b31x, if_pos (Or.inr b53x)]
        refine e_getIv rfl hT.1 r3x.2.2.1 ?_
        refine e_ifeq_b rfl (fun b71x => ?_) (fun b71x => ?_)
        · exact absurd (eR.trans b71x) (fun e => by have := (rwF_0 hq2x hn e).2; omega)
        · exact Eg.ret rfl (by decide) rfl ⟨rfl, J3x, rfl, by rw [eR, if_neg b71x]; exact r3x, fun e => absurd (eR.symm.trans e) b71x, SF.of ((f1x.tr f2x).tr f3x)⟩
  · have b31x : rwN B n P2x = 0 := (nI_eq (b := 0) (by omega) (by decide)).mp b31x
    refine e_aload rfl rfl ?_
    refine e_getR rfl hA.1 hA.2.1 ?_
    refine e_ipush rfl ?_
    refine Eg.c2 rfl (by decide) (by decide) rfl (Nat.le_of_ble_eq_true rfl) (xrcv_of rfl hT.1 rfl) ((cs_fail hT r2x (k := 0)).mono (by decide)) (fun r1x h1x hq => ?_)
    obtain ⟨rfl, J3x, rfl, r3x, f3x⟩ := hq
    refine e_goto rfl ?_
    refine e_aload rfl rfl ?_
    refine e_getR rfl hA.1 hA.2.1 ?_
    have eR : rwF B n P2x F2x = fl F2x P2x 0 := if_pos b31x
    refine e_getIv rfl hT.1 r3x.2.2.1 ?_
    refine e_ifeq_b rfl (fun b71x => ?_) (fun b71x => ?_)
    · exact absurd (eR.trans b71x) (fun e => by have := (rwF_0 hq2x hn e).2; omega)
    · exact Eg.ret rfl (by decide) rfl ⟨rfl, J3x, rfl, by rw [eR, if_neg b71x]; exact r3x, fun e => absurd (eR.symm.trans e) b71x, SF.of ((f1x.tr f2x).tr f3x)⟩
end CS
