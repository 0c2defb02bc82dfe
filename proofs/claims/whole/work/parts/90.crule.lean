/-! A RULE read, the one side: values and sums -/
section CR
variable {X : xX} {h : xH} {sh : List (Nat × Nat)} {I : Nat → Nat → Int32} {L : Nat → Nat → Int64} {R : Nat → Nat → Option Nat} {B : Nat → Nat} {n E ru : Nat} {st : rS}
def opc : List Nat := [0, 0, 43, 45, 60, 316, 61, 318, 62, 12, 11, 10, 0, 42, 47, 37]
/-- a piece of the one side's code -/
def pcE (e : Nat × Nat) : Int32 := if e.1 = 0 then nI (1000 + e.2) else if e.1 = 1 then nI (wvx.getD e.2 0) else nI (opc.getD e.1 0)
def RuAt (sh : List (Nat × Nat)) (R : Nat → Nat → Option Nat) (ru : Nat) : Prop := sh[ru]? = some (5, 6) ∧ ∀ (j : Nat) (q : Nat × Nat × Nat), fs_rule[j]? = some q → sh[ru + 1 + j]? = some (q.2.1, q.2.2) ∧ R ru q.1 = some (ru + 1 + j)
def RRAt (sh : List (Nat × Nat)) (R : Nat → Nat → Option Nat) (ru : Nat) : Prop := sh[7]? = some (6, 3) ∧ R 7 0 = some 1 ∧ R 7 1 = some ru ∧ 9 ≤ ru
/-- the reader stands as st says, without a fault -/
def Cst (I : Nat → Nat → Int32) (B : Nat → Nat) (n E ru : Nat) (st : rS) : Prop := Rd I B n E st.1 0 ∧ I 7 2 = nI st.2.1 ∧ st.2.1 ≤ 60 ∧ I ru 1 = nI st.2.2.length ∧ 2 * st.2.2.length ≤ 2 * st.2.1 + st.1 ∧ ∀ k e, st.2.2[k]? = some e → I (ru + 1) k = pcE e
/-- a fault F stands -/
def Csw (I : Nat → Nat → Int32) (B : Nat → Nat) (n E ru : Nat) (F : Int32) : Prop := ¬ F = 0 ∧ ∃ p c l, Rd I B n E p F ∧ I 7 2 = nI c ∧ c ≤ 60 ∧ I ru 1 = nI l ∧ l ≤ 400
def QFr (I J : Nat → Nat → Int32) (ru : Nat) : Prop := ∀ i k, (i ≠ 1 ∨ (k ≠ 2 ∧ k ≠ 7)) → (i ≠ 7 ∨ k ≠ 2) → (i ≠ ru ∨ k ≠ 1) → i ≠ ru + 1 → J i k = I i k
theorem QFr.rf : QFr I I ru := fun _ _ _ _ _ _ => rfl
theorem QFr.tr {J K : Nat → Nat → Int32} (h : QFr I J ru) (g : QFr J K ru) : QFr I K ru := fun i k a b c d => (g i k a b c d).trans (h i k a b c d)
theorem QFr.of {J : Nat → Nat → Int32} (h : RdF I J) : QFr I J ru := fun i k a _ _ _ => h i k a
theorem Cst.le (h : Cst I B n E ru st) : st.1 ≤ n ∧ n ≤ 400 := ⟨h.1.le, h.1.1.1⟩
theorem Cst.go {J : Nat → Nat → Int32} (h : Cst I B n E ru st) (hr : 9 ≤ ru) (hj : Rd J B n E (nxt B n st.1) 0) (f : RdF I J) : Cst J B n E ru (goN B n st) := by
  have g := (nxt_le (B := B) h.1.le).1
  refine ⟨hj, (f 7 2 (by decide)).trans h.2.1, h.2.2.1, (f ru 1 (by omega)).trans h.2.2.2.1, ?_, fun k e q => (f (ru + 1) k (by omega)).trans (h.2.2.2.2.2 k e q)⟩
  have := h.2.2.2.2.1
  show 2 * st.2.2.length ≤ 2 * st.2.1 + nxt B n st.1; omega
theorem Cst.wk {J : Nat → Nat → Int32} {F : Int32} {p : Nat} (h : Cst I B n E ru st) (hr : 9 ≤ ru) (hF : ¬ F = 0) (hj : Rd J B n E p F) (f : RdF I J) : Csw J B n E ru F := by
  have l := h.le
  have b := h.2.2.2.2.1
  have c := h.2.2.1
  exact ⟨hF, p, st.2.1, st.2.2.length, hj, (f 7 2 (by decide)).trans h.2.1, c, (f ru 1 (by omega)).trans h.2.2.2.1, by omega⟩
/-- what a reading leaves: D is what it should be -/
def rRes (I J : Nat → Nat → Int32) (B : Nat → Nat) (n E ru : Nat) (D : Int32 × rS) : Prop := QFr I J ru ∧ ((D.1 = 0 ∧ Cst J B n E ru D.2) ∨ Csw J B n E ru D.1)
theorem cs_radd (hU : RuAt sh R ru) {l : Nat} {x : Int32} (hl : I ru 1 = nI l) (hl4x : l ≤ 400) : Ec X 1 67 [.ref ru, .int x] (sh, I, L, R) (fun r h' => r = none ∧ ∃ J : Nat → Nat → Int32, h' = (sh, J, L, R) ∧ ((l = 400 ∧ J = I) ∨ (l < 400 ∧ J (ru + 1) l = x ∧ J ru 1 = nI (l + 1) ∧ ∀ i k, (i ≠ ru ∨ k ≠ 1) → (i ≠ ru + 1 ∨ k ≠ l) → J i k = I i k))) := by
  refine Ec.of (Nat.le_of_ble_eq_true rfl) ?_
  refine e_aload rfl rfl ?_
  refine e_getIv rfl hU.1 hl ?_
  refine e_aload rfl rfl ?_
  refine e_getR rfl hU.1 (hU.2 0 _ rfl).2 ?_
  refine e_alen rfl (hU.2 0 _ rfl).1 (by decide) ?_
  refine e_cge_b rfl (fun b9x => ?_) (fun b9x => ?_)
  · have b9x := (nI_lei (a := 400) (by decide) (by omega)).mp b9x
    exact Eg.ret rfl (by decide) rfl ⟨rfl, I, rfl, Or.inl ⟨by omega, rfl⟩⟩
  · have b9x := nle (a := 400) (by decide) (by omega) b9x
    refine e_aload rfl rfl ?_
    refine e_getR rfl hU.1 (hU.2 0 _ rfl).2 ?_
    refine e_aload rfl rfl ?_
    refine e_getIv rfl hU.1 hl ?_
    refine e_iload rfl rfl ?_
    refine e_iasJ (t := l) (n := 400) rfl (hU.2 0 _ rfl).1 rfl (by omega) (by decide) (fun J11x g11x f11x => ?_)
    refine e_aload rfl rfl ?_
    refine e_dupr rfl ?_
    refine e_getIv rfl hU.1 ((f11x ru 1 (Or.inl (by omega))).trans hl) ?_
    refine e_ipush rfl ?_
    refine e_iadd rfl ?_
    rw [show (nI l) + 1 = nI (l + 1) from nI_1 l]
    refine e_putIJ rfl hU.1 (fun J12x g12x f12x => ?_)
    exact Eg.ret rfl (by decide) rfl ⟨rfl, J12x, rfl, Or.inr ⟨b9x, (f12x _ _ (by omega)).trans g11x, g12x, fun i k h1x h2x => (f12x i k (by omega)).trans (f11x i k (by omega))⟩⟩
theorem Csw.ad {J : Nat → Nat → Int32} {F x : Int32} {l : Nat} (h : Csw I B n E ru F) (hr : 9 ≤ ru) (hl : I ru 1 = nI l) (hl4x : l ≤ 400) (g : (l = 400 ∧ J = I) ∨ (l < 400 ∧ J (ru + 1) l = x ∧ J ru 1 = nI (l + 1) ∧ ∀ i k, (i ≠ ru ∨ k ≠ 1) → (i ≠ ru + 1 ∨ k ≠ l) → J i k = I i k)) : Csw J B n E ru F ∧ QFr I J ru := by
  rcases g with ⟨e1x, e2x⟩ | ⟨g1x, g2x, g3x, g4x⟩
  · subst e2x; exact ⟨h, QFr.rf⟩
  · obtain ⟨h0x, p, c, m, h1x, h2x, h3x, h4x, h5x⟩ := h
    refine ⟨⟨h0x, p, c, l + 1, h1x.any (fun i k hi => g4x i k (by omega) (by omega)), (g4x 7 2 (by omega) (by omega)).trans h2x, h3x, g3x, by omega⟩, fun i k a b c d => g4x i k c (Or.inl d)⟩
/-- a fault stands: an operator is added all the same -/
theorem cs_raddW {F x : Int32} (hA : RRAt sh R ru) (hU : RuAt sh R ru) (h : Csw I B n E ru F) : Ec X 1 67 [.ref ru, .int x] (sh, I, L, R) (fun r h' => r = none ∧ ∃ J : Nat → Nat → Int32, h' = (sh, J, L, R) ∧ Csw J B n E ru F ∧ QFr I J ru) := by
  obtain ⟨h0x, p, c, l, h1x, h2x, h3x, h4x, h5x⟩ := id h
  refine (cs_radd hU (x := x) h4x h5x).imp ?_
  rintro r h' ⟨rfl, J, rfl, g⟩
  exact ⟨rfl, J, rfl, h.ad hA.2.2.2 h4x h5x g⟩
theorem cs_raddS {e : Nat × Nat} (hA : RRAt sh R ru) (hU : RuAt sh R ru) (h : Cst I B n E ru st) (hb : 2 * (st.2.2.length + 1) ≤ 2 * st.2.1 + st.1) {x : Int32} (hx : x = pcE e) : Ec X 1 67 [.ref ru, .int x] (sh, I, L, R) (fun r h' => r = none ∧ ∃ J : Nat → Nat → Int32, h' = (sh, J, L, R) ∧ Cst J B n E ru (st.1, st.2.1, st.2.2 ++ [e]) ∧ QFr I J ru) := by
  have hl := h.le
  have hc := h.2.2.1
  have hr := hA.2.2.2
  refine (cs_radd hU (x := x) h.2.2.2.1 (by omega)).imp ?_
  rintro r h' ⟨rfl, J, rfl, g⟩
  refine ⟨rfl, J, rfl, ?_⟩
  rcases g with ⟨e1x, e2x⟩ | ⟨g1x, g2x, g3x, g4x⟩
  · omega
  · obtain ⟨h1x, h2x, h3x, h4x, h5x, h6x⟩ := h
    refine ⟨⟨h1x.any (fun i k hi => g4x i k (by omega) (by omega)), (g4x 7 2 (by omega) (by omega)).trans h2x, h3x, ?_, ?_, fun k e' q => ?_⟩, fun i k a b c d => g4x i k c (Or.inl d)⟩
    · show J ru 1 = nI (st.2.2 ++ [e]).length
      rw [List.length_append]; exact g3x
    · show 2 * (st.2.2 ++ [e]).length ≤ 2 * st.2.1 + st.1
      rw [List.length_append]; simpa using hb
    · by_cases ek : k < st.2.2.length
      · rw [List.getElem?_append_left ek] at q
        exact (g4x _ _ (by omega) (by omega)).trans (h6x k e' q)
      · have q2x := (List.getElem?_eq_some_iff.mp q).1
        rw [List.length_append] at q2x
        have e3x : k = st.2.2.length := by simp at q2x; omega
        subst e3x
        rw [List.getElem?_append_right (Nat.le_refl _), Nat.sub_self] at q
        have : e = e' := by simpa using q
        rw [← this, ← hx]; exact g2x
theorem wdH_in {p : Nat} : wdH B n p = -1 ∨ ∃ w, w < 22 ∧ wdH B n p = nI w := by
  unfold wdH
  by_cases h : tknd B n p = 1
  · rw [if_pos h]
    unfold tvl
    have hp : ¬ n ≤ p := fun q => by rw [tknd_0.mpr q] at h; cases h
    have hl : isL (B p) = true := by
      apply Decidable.byContradiction; intro q
      unfold tknd at h; rw [if_neg hp, if_neg q] at h; split at h <;> cases h
    rw [if_neg hp, if_pos hl]
    unfold wnI
    have := wno_le (B := B) (p := p) (q := lend B n p)
    split
    · exact Or.inl rfl
    · exact Or.inr ⟨_, by omega, rfl⟩
  · rw [if_neg h]; exact Or.inl rfl
theorem wvx_in : ∀ w, w < 22 → ((w = 3 ∨ w = 5 ∨ 13 ≤ w) ↔ ∃ k, k < 11 ∧ wvx.getD k 0 = w) := by
  intro w hw
  have h1x : ∀ w, w < 22 → (w = 3 ∨ w = 5 ∨ 13 ≤ w) → (List.range 11).any (fun k => decide (wvx.getD k 0 = w)) = true := by decide
  have h2x : ∀ k, k < 11 → (wvx.getD k 0 = 3 ∨ wvx.getD k 0 = 5 ∨ 13 ≤ wvx.getD k 0) := by decide
  constructor
  · intro h
    obtain ⟨k, hk, e⟩ := List.any_eq_true.mp (h1x w hw h)
    exact ⟨k, List.mem_range.mp hk, of_decide_eq_true e⟩
  · intro ⟨k, hk, e⟩; rw [← e]; exact h2x k hk
theorem wvx_lt : ∀ k, k < 11 → wvx.getD k 0 < 22 := by decide
theorem vIx_iff {p : Nat} : vIx B n p < 11 ↔ (wdH B n p = 3 ∨ wdH B n p = 5 ∨ 13 ≤ wdH B n p) := by
  constructor
  · intro h
    have e := (wdH_iff (wvx_lt _ h)).mpr (vIx_lt h)
    have hw := wvx_lt _ h
    have := (wvx_in _ hw).mpr ⟨_, h, rfl⟩
    rw [e]
    rcases this with q | q | q
    · rw [q]; exact Or.inl rfl
    · rw [q]; exact Or.inr (Or.inl rfl)
    · exact Or.inr (Or.inr ((nI_lei (a := 13) (by decide) (by omega)).mpr q))
  · intro h
    apply Decidable.byContradiction; intro hc
    have h11x : vIx B n p = 11 := by have := vIx_le (B := B) (n := n) (p := p); omega
    rcases wdH_in (B := B) (n := n) (p := p) with e | ⟨w, hw, e⟩
    · rw [e] at h; revert h; decide
    · rw [e] at h
      have hv : w = 3 ∨ w = 5 ∨ 13 ≤ w := by
        rcases h with q | q | q
        · exact Or.inl ((nI_eq (b := 3) (by omega) (by decide)).mp q)
        · exact Or.inr (Or.inl ((nI_eq (b := 5) (by omega) (by decide)).mp q))
        · exact Or.inr (Or.inr ((nI_lei (a := 13) (by decide) (by omega)).mp q))
      obtain ⟨k, hk, ek⟩ := (wvx_in w hw).mp hv
      have := vIx_no (B := B) (n := n) (p := p) (k := k) (by omega)
      rw [ek] at this
      exact this ((wdH_iff hw).mp e)
theorem vIx_w {p : Nat} (h : vIx B n p < 11) : wdH B n p = pcE (1, vIx B n p) := (wdH_iff (wvx_lt _ h)).mpr (vIx_lt h)
theorem cs_isVW {x : Int32} : Ec X 1 80 [.int x] h (fun r h' => r = some (.int (yn (x = 3 ∨ x = 5 ∨ 13 ≤ x))) ∧ h' = h) := by
  refine Ec.of (Nat.le_of_ble_eq_true rfl) ?_
  refine e_iload rfl rfl ?_
  refine e_ipush rfl ?_
  refine e_ceq_b rfl (fun b2x => ?_) (fun b2x => ?_)
  · refine e_ipush rfl ?_
    refine e_goto rfl ?_
    exact Eg.ret rfl (by decide) rfl ⟨congrArg (fun z => some (Value.int z)) (yn_t (Or.inl b2x)).symm, rfl⟩
  · refine e_iload rfl rfl ?_
    refine e_ipush rfl ?_
    refine e_ceq_b rfl (fun b7x => ?_) (fun b7x => ?_)
    · refine e_ipush rfl ?_
      refine e_goto rfl ?_
      exact Eg.ret rfl (by decide) rfl ⟨congrArg (fun z => some (Value.int z)) (yn_t (Or.inr (Or.inl b7x))).symm, rfl⟩
    · refine e_iload rfl rfl ?_
      refine e_ipush rfl ?_
      refine e_clt_b rfl (fun b13x => ?_) (fun b13x => ?_)
      · refine e_ipush rfl ?_
        exact Eg.ret rfl (by decide) rfl ⟨congrArg (fun z => some (Value.int z)) (yn_f (fun q => q.elim b2x (fun q => q.elim b7x (fun q => Int32.not_le.mpr b13x q)))).symm, rfl⟩
      · refine e_ipush rfl ?_
        refine e_goto rfl ?_
        exact Eg.ret rfl (by decide) rfl ⟨congrArg (fun z => some (Value.int z)) (yn_t (Or.inr (Or.inr (Int32.not_lt.mp b13x)))).symm, rfl⟩
theorem tn_val {p : Nat} (h : tknd B n p = 2) (h0x : ¬ tvl B n p < 0) : tvl B n p = nI (tn B n p) ∧ tn B n p ≤ 99999 := by
  obtain ⟨t1x, t2x, t3x⟩ := tvl_2 (tknd_2.mp h)
  have h5x : ¬ 5 < dend B n p - p := fun q => h0x (by rw [t1x]; unfold nmI; rw [if_pos q]; decide)
  have := nmv_5 (B := B) (n := n) (p := p) (by omega)
  have e : tvl B n p = nI (nmv B p (dend B n p - p)) := by rw [t1x]; unfold nmI; rw [if_neg h5x]
  have e2x : tn B n p = nmv B p (dend B n p - p) := by unfold tn; rw [e, nI_clamp (by omega)]
  rw [e2x]; exact ⟨e, this⟩
theorem cs_rval (hT : TpAt sh R) (hA : RRAt sh R ru) (hU : RuAt sh R ru) (hr : Cst I B n E ru st) : Ec X 2 79 [.ref 7] (sh, I, L, R) (fun r h' => r = none ∧ ∃ J : Nat → Nat → Int32, h' = (sh, J, L, R) ∧ rRes I J B n E ru (rV B n st)) := by
  obtain ⟨hp, hn⟩ := hr.le
  have h9x := hA.2.2.2
  have hc := hr.2.2.1
  have hbd := hr.2.2.2.2.1
  have kb := tknd_bd (B := B) (n := n) (p := st.1)
  refine Ec.of (Nat.le_of_ble_eq_true rfl) ?_
  refine e_aload rfl rfl ?_
  refine e_getR rfl hA.1 hA.2.1 ?_
  refine Eg.p1 rfl (by decide) (by decide) rfl (Nat.le_of_ble_eq_true rfl) (xrcv_of rfl hT.1 rfl) ((cs_atNumber hT hr.1).mono (by decide)) ?_
  refine e_istore rfl ?_
  refine e_aload rfl rfl ?_
  refine e_getR rfl hA.1 hA.2.1 ?_
  refine Eg.p1 rfl (by decide) (by decide) rfl (Nat.le_of_ble_eq_true rfl) (xrcv_of rfl hT.1 rfl) ((cs_wordHere hT hr.1).mono (by decide)) ?_
  refine e_istore rfl ?_
  refine e_iload rfl rfl ?_
  refine e_ifne_b rfl (fun b17x => ?_) (fun b17x => ?_)
  · replace b17x := yn_n0.mp b17x
    refine e_iload rfl rfl ?_
    refine e_ifeq_f rfl (yn_n0.mpr b17x) ?_
    refine e_aload rfl rfl ?_
    refine e_getR rfl hA.1 hA.2.1 ?_
    refine Eg.p1 rfl (by decide) (by decide) rfl (Nat.le_of_ble_eq_true rfl) (xrcv_of rfl hT.1 rfl) ((cs_numberHere hT hr.1).mono (by decide)) ?_
    refine e_ifge_b rfl (fun b49x => ?_) (fun b49x => ?_)
    · refine e_aload rfl rfl ?_
      refine e_getIv rfl hA.1 hr.2.1 ?_
      refine e_ipush rfl ?_
      refine e_clt_b rfl (fun b69x => ?_) (fun b69x => ?_)
      · have b69x := (nI_lti (b := 60) (by omega) (by decide)).mp b69x
        refine e_aload rfl rfl ?_
        refine e_getR rfl hA.1 hA.2.2.1 ?_
        refine e_iload rfl rfl ?_
        refine e_ifeq_f rfl (yn_n0.mpr b17x) ?_
        refine e_ipush rfl ?_
        refine e_aload rfl rfl ?_
        refine e_getR rfl hA.1 hA.2.1 ?_
        refine Eg.p1 rfl (by decide) (by decide) rfl (Nat.le_of_ble_eq_true rfl) (xrcv_of rfl hT.1 rfl) ((cs_numberHere hT hr.1).mono (by decide)) ?_
        refine e_iadd rfl ?_
        refine e_goto rfl ?_
        rw [show (1000 : Int32) + tvl B n st.1 = pcE (0, tn B n st.1) from by rw [(tn_val b17x (Int32.not_lt.mpr b49x)).1]; exact nI_add 1000 _]
        refine Eg.c2 rfl (by decide) (by decide) rfl (Nat.le_of_ble_eq_true rfl) (xrcv_of rfl hU.1 rfl) ((cs_radd hU (x := pcE (0, tn B n st.1)) hr.2.2.2.1 (by omega)).mono (by decide)) (fun r1x h1x hq => ?_)
        obtain ⟨rfl, K, rfl, ka⟩ := hq
        replace ka := ka.resolve_left (fun q => by omega)
        obtain ⟨-, ka2x, ka3x, ka4x⟩ := ka
        refine e_aload rfl rfl ?_
        refine e_dupr rfl ?_
        refine e_getIv rfl hA.1 ((ka4x 7 2 (by omega) (by omega)).trans hr.2.1) ?_
        refine e_ipush rfl ?_
        refine e_iadd rfl ?_
        rw [show (nI st.2.1) + 1 = nI (st.2.1 + 1) from nI_1 _]
        refine e_putIJ rfl hA.1 (fun J21x g21x f21x => ?_)
        refine e_aload rfl rfl ?_
        refine e_getR rfl hA.1 hA.2.1 ?_
        refine Eg.c1 rfl (by decide) (by decide) rfl (Nat.le_of_ble_eq_true rfl) (xrcv_of rfl hT.1 rfl) ((cs_step hT (hr.1.any (fun i k hi => (f21x i k (by omega)).trans (ka4x i k (by omega) (by omega))))).mono (by decide)) (fun r1x h1x hq => ?_)
        obtain ⟨rfl, G, rfl, g1x, g2x⟩ := hq
        have eD : rV B n st = (0, (nxt B n st.1, st.2.1 + 1, st.2.2 ++ [(0, tn B n st.1)])) := by unfold rV; rw [if_pos b17x, if_neg (Int32.not_lt.mpr b49x), if_neg (by omega)]
        have kg : ∀ i k, (i ≠ 1 ∨ (k ≠ 2 ∧ k ≠ 7)) → (i ≠ 7 ∨ k ≠ 2) → G i k = K i k := fun i k a b => (g2x i k a).trans (f21x i k b)
        have nx := (nxt_le (B := B) (n := n) (p := st.1) hp).1
        have qk : QFr I K ru := fun i k a b c d => ka4x i k c (Or.inl d)
        refine Eg.ret rfl (by decide) rfl ⟨rfl, G, rfl, ?_⟩
        rw [eD]
        refine ⟨qk.tr (fun i k a b c d => kg i k a b), Or.inl ⟨rfl, g1x, (g2x 7 2 (by decide)).trans g21x, ?_, ?_, ?_, fun k e' q => ?_⟩⟩
        · show st.2.1 + 1 ≤ 60; omega
        · show G ru 1 = nI (st.2.2 ++ [(0, tn B n st.1)]).length
          rw [List.length_append]; exact (kg ru 1 (by omega) (by omega)).trans ka3x
        · show 2 * (st.2.2 ++ [(0, tn B n st.1)]).length ≤ 2 * (st.2.1 + 1) + nxt B n st.1
          rw [List.length_append]; simp; omega
        · replace q : (st.2.2 ++ [(0, tn B n st.1)])[k]? = some e' := q
          refine (kg (ru + 1) k (by omega) (by omega)).trans ?_
          by_cases ek : k < st.2.2.length
          · rw [List.getElem?_append_left ek] at q
            exact (ka4x _ _ (by omega) (by omega)).trans (hr.2.2.2.2.2 k e' q)
          · have q2x := (List.getElem?_eq_some_iff.mp q).1
            rw [List.length_append] at q2x
            have e3x : k = st.2.2.length := by simp at q2x; omega
            subst e3x
            rw [List.getElem?_append_right (Nat.le_refl _), Nat.sub_self] at q
            have e4x : (0, tn B n st.1) = e' := by simpa using q
            rw [← e4x]; exact ka2x
      · have b69x := nlt (b := 60) (by omega) (by decide) b69x
        refine e_aload rfl rfl ?_
        refine e_getR rfl hA.1 hA.2.1 ?_
        refine e_ipush rfl ?_
        refine Eg.c2 rfl (by decide) (by decide) rfl (Nat.le_of_ble_eq_true rfl) (xrcv_of rfl hT.1 rfl) ((cs_fail hT hr.1 (k := 3)).mono (by decide)) (fun r1x h1x hq => ?_)
        obtain ⟨rfl, J, rfl, a1x, a2x⟩ := hq
        refine e_goto rfl ?_
        have eD : rV B n st = (fl 0 st.1 3, st) := by unfold rV; rw [if_pos b17x, if_neg (Int32.not_lt.mpr b49x), if_pos b69x]
        exact Eg.ret rfl (by decide) rfl ⟨rfl, J, rfl, by rw [eD]; exact ⟨QFr.of a2x, Or.inr (hr.wk h9x (fl_ne (by omega)) a1x a2x)⟩⟩
    · refine e_aload rfl rfl ?_
      refine e_getR rfl hA.1 hA.2.1 ?_
      refine e_ipush rfl ?_
      refine Eg.c2 rfl (by decide) (by decide) rfl (Nat.le_of_ble_eq_true rfl) (xrcv_of rfl hT.1 rfl) ((cs_fail hT hr.1 (k := 1)).mono (by decide)) (fun r1x h1x hq => ?_)
      obtain ⟨rfl, J, rfl, a1x, a2x⟩ := hq
      refine e_goto rfl ?_
      have eD : rV B n st = (fl 0 st.1 1, st) := by unfold rV; rw [if_pos b17x, if_pos (Int32.not_le.mp b49x)]
      exact Eg.ret rfl (by decide) rfl ⟨rfl, J, rfl, by rw [eD]; exact ⟨QFr.of a2x, Or.inr (hr.wk h9x (fl_ne (by omega)) a1x a2x)⟩⟩
  · replace b17x := yn_0.mp b17x
    refine e_iload rfl rfl ?_
    refine Eg.p1 rfl (by decide) (by decide) rfl (Nat.le_of_ble_eq_true rfl) (xrcv_ofs (Or.inl rfl)) (cs_isVW.mono (by decide)) ?_
    refine e_ifne_b rfl (fun b24x => ?_) (fun b24x => ?_)
    · replace b24x := yn_n0.mp b24x
      refine e_iload rfl rfl ?_
      refine e_ifeq_t rfl (yn_0.mpr b17x) ?_
      refine e_aload rfl rfl ?_
      refine e_getIv rfl hA.1 hr.2.1 ?_
      refine e_ipush rfl ?_
      refine e_clt_b rfl (fun b69x => ?_) (fun b69x => ?_)
      · have b69x := (nI_lti (b := 60) (by omega) (by decide)).mp b69x
        refine e_aload rfl rfl ?_
        refine e_getR rfl hA.1 hA.2.2.1 ?_
        refine e_iload rfl rfl ?_
        refine e_ifeq_t rfl (yn_0.mpr b17x) ?_
        refine e_iload rfl rfl ?_
        rw [vIx_w (vIx_iff.mpr b24x)]
        refine Eg.c2 rfl (by decide) (by decide) rfl (Nat.le_of_ble_eq_true rfl) (xrcv_of rfl hU.1 rfl) ((cs_radd hU (x := pcE (1, vIx B n st.1)) hr.2.2.2.1 (by omega)).mono (by decide)) (fun r1x h1x hq => ?_)
        obtain ⟨rfl, K, rfl, ka⟩ := hq
        replace ka := ka.resolve_left (fun q => by omega)
        obtain ⟨-, ka2x, ka3x, ka4x⟩ := ka
        refine e_aload rfl rfl ?_
        refine e_dupr rfl ?_
        refine e_getIv rfl hA.1 ((ka4x 7 2 (by omega) (by omega)).trans hr.2.1) ?_
        refine e_ipush rfl ?_
        refine e_iadd rfl ?_
        rw [show (nI st.2.1) + 1 = nI (st.2.1 + 1) from nI_1 _]
        refine e_putIJ rfl hA.1 (fun J22x g22x f22x => ?_)
        refine e_aload rfl rfl ?_
        refine e_getR rfl hA.1 hA.2.1 ?_
        refine Eg.c1 rfl (by decide) (by decide) rfl (Nat.le_of_ble_eq_true rfl) (xrcv_of rfl hT.1 rfl) ((cs_step hT (hr.1.any (fun i k hi => (f22x i k (by omega)).trans (ka4x i k (by omega) (by omega))))).mono (by decide)) (fun r1x h1x hq => ?_)
        obtain ⟨rfl, G, rfl, g1x, g2x⟩ := hq
        have eD : rV B n st = (0, (nxt B n st.1, st.2.1 + 1, st.2.2 ++ [(1, vIx B n st.1)])) := by unfold rV; rw [if_neg b17x, if_pos (vIx_iff.mpr b24x), if_neg (by omega)]
        have kg : ∀ i k, (i ≠ 1 ∨ (k ≠ 2 ∧ k ≠ 7)) → (i ≠ 7 ∨ k ≠ 2) → G i k = K i k := fun i k a b => (g2x i k a).trans (f22x i k b)
        have nx := (nxt_le (B := B) (n := n) (p := st.1) hp).1
        have qk : QFr I K ru := fun i k a b c d => ka4x i k c (Or.inl d)
        refine Eg.ret rfl (by decide) rfl ⟨rfl, G, rfl, ?_⟩
        rw [eD]
        refine ⟨qk.tr (fun i k a b c d => kg i k a b), Or.inl ⟨rfl, g1x, (g2x 7 2 (by decide)).trans g22x, ?_, ?_, ?_, fun k e' q => ?_⟩⟩
        · show st.2.1 + 1 ≤ 60; omega
        · show G ru 1 = nI (st.2.2 ++ [(1, vIx B n st.1)]).length
          rw [List.length_append]; exact (kg ru 1 (by omega) (by omega)).trans ka3x
        · show 2 * (st.2.2 ++ [(1, vIx B n st.1)]).length ≤ 2 * (st.2.1 + 1) + nxt B n st.1
          rw [List.length_append]; simp; omega
        · replace q : (st.2.2 ++ [(1, vIx B n st.1)])[k]? = some e' := q
          refine (kg (ru + 1) k (by omega) (by omega)).trans ?_
          by_cases ek : k < st.2.2.length
          · rw [List.getElem?_append_left ek] at q
            exact (ka4x _ _ (by omega) (by omega)).trans (hr.2.2.2.2.2 k e' q)
          · have q2x := (List.getElem?_eq_some_iff.mp q).1
            rw [List.length_append] at q2x
            have e3x : k = st.2.2.length := by simp at q2x; omega
            subst e3x
            rw [List.getElem?_append_right (Nat.le_refl _), Nat.sub_self] at q
            have e4x : (1, vIx B n st.1) = e' := by simpa using q
            rw [← e4x]; exact ka2x
      · have b69x := nlt (b := 60) (by omega) (by decide) b69x
        refine e_aload rfl rfl ?_
        refine e_getR rfl hA.1 hA.2.1 ?_
        refine e_ipush rfl ?_
        refine Eg.c2 rfl (by decide) (by decide) rfl (Nat.le_of_ble_eq_true rfl) (xrcv_of rfl hT.1 rfl) ((cs_fail hT hr.1 (k := 3)).mono (by decide)) (fun r1x h1x hq => ?_)
        obtain ⟨rfl, J, rfl, a1x, a2x⟩ := hq
        refine e_goto rfl ?_
        have eD : rV B n st = (fl 0 st.1 3, st) := by unfold rV; rw [if_neg b17x, if_pos (vIx_iff.mpr b24x), if_pos b69x]
        exact Eg.ret rfl (by decide) rfl ⟨rfl, J, rfl, by rw [eD]; exact ⟨QFr.of a2x, Or.inr (hr.wk h9x (fl_ne (by omega)) a1x a2x)⟩⟩
    · replace b24x := yn_0.mp b24x
      refine e_aload rfl rfl ?_
      refine e_getR rfl hA.1 hA.2.1 ?_
      refine e_ipush rfl ?_
      refine Eg.c2 rfl (by decide) (by decide) rfl (Nat.le_of_ble_eq_true rfl) (xrcv_of rfl hT.1 rfl) ((cs_fail hT hr.1 (k := 0)).mono (by decide)) (fun r1x h1x hq => ?_)
      obtain ⟨rfl, J, rfl, a1x, a2x⟩ := hq
      refine e_goto rfl ?_
      have eD : rV B n st = (fl 0 st.1 0, st) := by unfold rV; rw [if_neg b17x, if_neg (fun q => b24x (vIx_iff.mp q))]
      exact Eg.ret rfl (by decide) rfl ⟨rfl, J, rfl, by rw [eD]; exact ⟨QFr.of a2x, Or.inr (hr.wk h9x (fl_ne (by omega)) a1x a2x)⟩⟩
end CR
