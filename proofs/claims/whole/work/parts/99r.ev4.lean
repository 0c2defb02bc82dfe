/-! RULES worked out: clauses, the one side -/
section EZ
variable {X : xX} {h : xH} {sh : List (Nat × Nat)} {I : Nat → Nat → Int32} {L : Nat → Nat → Int64} {R : Nat → Nat → Option Nat} {B : Nat → Nat} {n ri p : Nat} {st : rS}
variable {ru m s : Nat} {v : Nat → Nat → Int32} {W : Nat → Int64} {cd : List (Nat × Nat)} {cl : List (Nat × Nat × Nat)}
theorem cs_isFill (hU : RuAt sh R ru) (hru : RuV I ru cd cl) (hok : ruOK cd cl) {i : Nat} {c : Nat × Nat × Nat} (hi : cl[i]? = some c) : Ec X 1 68 [.ref ru, .int (nI i)] (sh, I, L, R) (fun r h' => r = some (.int (yn (¬ c.1 < c.2.1))) ∧ h' = (sh, I, L, R)) := by
  have q1x := hru.2.2.2 i c hi
  obtain ⟨c1x, c2x, c3x, c4x, c5x, c6x⟩ := hok.2.2.2.2 c (List.mem_of_getElem? hi)
  have hl := hok.1
  have l12x := hok.2.2.2.1
  have il : i < cl.length := by
    apply Decidable.byContradiction; intro q
    rw [List.getElem?_eq_none (by omega)] at hi; cases hi
  refine Ec.of (Nat.le_of_ble_eq_true rfl) ?_
  refine e_aload rfl rfl ?_
  refine e_getR rfl hU.1 (hU.2 1 _ rfl).2 ?_
  refine e_iload rfl rfl ?_
  refine e_ialv (t := i) (n := 12) rfl (hU.2 1 _ rfl).1 rfl (by omega) (by decide) (q1x).1 ?_
  refine e_aload rfl rfl ?_
  refine e_getR rfl hU.1 (hU.2 2 _ rfl).2 ?_
  refine e_iload rfl rfl ?_
  refine e_ialv (t := i) (n := 12) rfl (hU.2 2 _ rfl).1 rfl (by omega) (by decide) (q1x).2.1 ?_
  refine e_cne_b rfl (fun b12x => ?_) (fun b12x => ?_)
  · replace b12x : ¬ c.1 = c.2.1 := fun q => b12x (by rw [q])
    refine e_ipush rfl ?_
    exact Eg.ret rfl (by decide) rfl ⟨congrArg (fun z => some (Value.int z)) (yn_f (by omega)).symm, rfl⟩
  · replace b12x : c.1 = c.2.1 := (nI_eq (by omega) (by omega)).mp b12x
    refine e_ipush rfl ?_
    refine e_goto rfl ?_
    exact Eg.ret rfl (by decide) rfl ⟨congrArg (fun z => some (Value.int z)) (yn_t (by omega)).symm, rfl⟩
theorem cs_hasTest (hU : RuAt sh R ru) (hru : RuV I ru cd cl) (hok : ruOK cd cl) {i : Nat} {c : Nat × Nat × Nat} (hi : cl[i]? = some c) : Ec X 1 69 [.ref ru, .int (nI i)] (sh, I, L, R) (fun r h' => r = some (.int (yn (c.2.1 < c.2.2))) ∧ h' = (sh, I, L, R)) := by
  have q1x := hru.2.2.2 i c hi
  obtain ⟨c1x, c2x, c3x, c4x, c5x, c6x⟩ := hok.2.2.2.2 c (List.mem_of_getElem? hi)
  have hl := hok.1
  have l12x := hok.2.2.2.1
  have il : i < cl.length := by
    apply Decidable.byContradiction; intro q
    rw [List.getElem?_eq_none (by omega)] at hi; cases hi
  refine Ec.of (Nat.le_of_ble_eq_true rfl) ?_
  refine e_aload rfl rfl ?_
  refine e_getR rfl hU.1 (hU.2 2 _ rfl).2 ?_
  refine e_iload rfl rfl ?_
  refine e_ialv (t := i) (n := 12) rfl (hU.2 2 _ rfl).1 rfl (by omega) (by decide) (q1x).2.1 ?_
  refine e_aload rfl rfl ?_
  refine e_getR rfl hU.1 (hU.2 3 _ rfl).2 ?_
  refine e_iload rfl rfl ?_
  refine e_ialv (t := i) (n := 12) rfl (hU.2 3 _ rfl).1 rfl (by omega) (by decide) (q1x).2.2 ?_
  refine e_cge_b rfl (fun b12x => ?_) (fun b12x => ?_)
  · replace b12x := (nI_lei (by omega) (by omega)).mp b12x
    refine e_ipush rfl ?_
    exact Eg.ret rfl (by decide) rfl ⟨congrArg (fun z => some (Value.int z)) (yn_f (by omega)).symm, rfl⟩
  · replace b12x := nle (by omega) (by omega) b12x
    refine e_ipush rfl ?_
    refine e_goto rfl ?_
    exact Eg.ret rfl (by decide) rfl ⟨congrArg (fun z => some (Value.int z)) (yn_t (by omega)).symm, rfl⟩
theorem cs_testHolds (hC : CrAt sh R) (hU : RuAt sh R ru) (hru : RuV I ru cd cl) (hok : ruOK cd cl) {i : Nat} {c : Nat × Nat × Nat} (hi : cl[i]? = some c) (ht : c.2.1 < c.2.2) (hW : ∀ k, k < 11 → L 239 (wvx.getD k 0) = W k) : Ec X 4 6 [.ref 237, .ref ru, .int (nI i)] (sh, I, L, R) (fun r h' => r = some (.int (yn (holdB W cd c = true))) ∧ ∃ M : Nat → Nat → Int64, h' = (sh, I, M, R) ∧ ∀ p q, p ≠ 238 → M p q = L p q) := by
  have q1x := hru.2.2.2 i c hi
  obtain ⟨c1x, c2x, c3x, c4x, c5x, c6x⟩ := hok.2.2.2.2 c (List.mem_of_getElem? hi)
  have hl := hok.1
  have l12x := hok.2.2.2.1
  have il : i < cl.length := by
    apply Decidable.byContradiction; intro q
    rw [List.getElem?_eq_none (by omega)] at hi; cases hi
  refine Ec.of (Nat.le_of_ble_eq_true rfl) ?_
  refine e_aload rfl rfl ?_
  refine e_aload rfl rfl ?_
  refine e_aload rfl rfl ?_
  refine e_getR rfl hU.1 (hU.2 2 _ rfl).2 ?_
  refine e_iload rfl rfl ?_
  refine e_ialv (t := i) (n := 12) rfl (hU.2 2 _ rfl).1 rfl (by omega) (by decide) (q1x).2.1 ?_
  refine e_aload rfl rfl ?_
  refine e_getR rfl hU.1 (hU.2 3 _ rfl).2 ?_
  refine e_iload rfl rfl ?_
  refine e_ialv (t := i) (n := 12) rfl (hU.2 3 _ rfl).1 rfl (by omega) (by decide) (q1x).2.2 ?_
  refine Eg.c4 rfl (by decide) (by decide) rfl (Nat.le_of_ble_eq_true rfl) (xrcv_of rfl hC.1 rfl) ((cs_worth hC hU hru.2.2.1 hok.1 hok.2.1 hok.2.2.1 c2x c3x (c5x ht) hW).mono (by decide)) (fun r1x h1x hq => ?_)
  obtain ⟨rfl, M, rfl, m2x⟩ := hq
  obtain ⟨-, e2x⟩ := ev_end (W := W) (c5x ht) hok.2.1
  have e2x := e2x rfl
  refine e_lpush rfl ?_
  refine e_lcmp rfl ?_
  refine e_ifeq_b rfl (fun b19x => ?_) (fun b19x => ?_)
  · refine e_ipush rfl ?_
    have b19x := lg_eq0.mp b19x
    exact Eg.ret rfl (by decide) rfl ⟨congrArg (fun z => some (Value.int z)) (yn_f (fun q => (of_decide_eq_true q).elim (fun r => absurd r (by omega)) (fun r => by rw [b19x] at r; exact absurd r (by decide)))).symm, M, rfl, m2x⟩
  · refine e_ipush rfl ?_
    refine e_goto rfl ?_
    exact Eg.ret rfl (by decide) rfl ⟨congrArg (fun z => some (Value.int z)) (yn_t (decide_eq_true (Or.inr (e2x.resolve_left (fun r => b19x (lg_eq0.mpr r)))))).symm, M, rfl, m2x⟩
theorem ex_fill {k : Nat} {x : Int32} {f i : Nat} (h : f ≠ 14 ∧ f ≠ 17) : filF v k x f i = v f i := by
  unfold filF; rw [xu_o (Or.inl h.2), xu_o (Or.inl h.1)]
theorem lv_ex {V : Nat → Nat → Int32} {c : Nat} {d : Int32} (h : ∀ f i, f ≠ 13 → f ≠ 14 → f ≠ 17 → f ≠ 18 → V f i = v f i) : lv V c d = lv v c d := by
  have e : ∀ f, f ≠ 13 → f ≠ 14 → f ≠ 17 → f ≠ 18 → V f = v f := fun f a b c d => funext (fun i => h f i a b c d)
  unfold lv sandF wvv dgt cn
  simp only [e 1 (by decide) (by decide) (by decide) (by decide), e 2 (by decide) (by decide) (by decide) (by decide), e 3 (by decide) (by decide) (by decide) (by decide), e 4 (by decide) (by decide) (by decide) (by decide), e 5 (by decide) (by decide) (by decide) (by decide), e 6 (by decide) (by decide) (by decide) (by decide), e 20 (by decide) (by decide) (by decide) (by decide), e 21 (by decide) (by decide) (by decide) (by decide), e 22 (by decide) (by decide) (by decide) (by decide), e 23 (by decide) (by decide) (by decide) (by decide)]
theorem wlo_ex {V : Nat → Nat → Int32} {c : Nat} {d : Int32} (h : ∀ f i, f ≠ 13 → f ≠ 14 → f ≠ 17 → f ≠ 18 → V f i = v f i) : wlo V c d = wlo v c d := by
  have e : ∀ f, f ≠ 13 → f ≠ 14 → f ≠ 17 → f ≠ 18 → V f = v f := fun f a b c d => funext (fun i => h f i a b c d)
  unfold wlo
  rw [lv_ex h]
  unfold wlS pcl plm pco cn
  simp only [e 1 (by decide) (by decide) (by decide) (by decide), e 7 (by decide) (by decide) (by decide) (by decide), e 8 (by decide) (by decide) (by decide) (by decide), e 9 (by decide) (by decide) (by decide) (by decide), e 10 (by decide) (by decide) (by decide) (by decide), e 11 (by decide) (by decide) (by decide) (by decide), e 12 (by decide) (by decide) (by decide) (by decide)]
theorem ask_fill {k j : Nat} {x : Int32} (h3x : j ≠ 3) (h10x : j < 10) : ask (filF v k x) k j = ask v k j := by
  have eo : ∀ f i, f ≠ 13 → f ≠ 14 → f ≠ 17 → f ≠ 18 → filF v k x f i = v f i := fun f i _ a b _ => ex_fill ⟨a, b⟩
  have e13x : sc (filF v k x) k = sc v k := by unfold sc; rw [ex_fill (by decide)]
  have ec : ∀ j, cn (filF v k x) j = cn v j := fun j => by unfold cn; rw [ex_fill (by decide)]
  have el : ∀ c d, lv (filF v k x) c d = lv v c d := fun c d => lv_ex eo
  have ew : sw (filF v k x) k = sw v k := by unfold sw; rw [wlo_ex eo, e13x, ec]
  have ep : ∀ b, pco (filF v k x) b = pco v b := fun b => by unfold pco; rw [ex_fill (by decide), ex_fill (by decide)]
  unfold ask askI
  rw [e13x, ec, ec, ew, ep]
  simp only [el, ex_fill (v := v) (k := k) (x := x) (f := 13) (i := k) (by decide), ex_fill (v := v) (k := k) (x := x) (f := 15) (i := k) (by decide)]
  rw [if_neg (show ¬ j = 3 from h3x), if_neg (show ¬ j = 3 from h3x)]
  have t : j = 0 ∨ j = 1 ∨ j = 2 ∨ j = 4 ∨ j = 5 ∨ j = 6 ∨ j = 7 ∨ j = 8 ∨ j = 9 := by omega
  rcases t with rfl | rfl | rfl | rfl | rfl | rfl | rfl | rfl | rfl <;> rfl
theorem ask_f2 {k j : Nat} {x : Int32} (hj : j < 11) (h10x : j ≠ 10) : ask (filF v k x) k j = if j = 3 then ask (filF v k x) k 3 else ask v k j := by
  by_cases e : j = 3
  · rw [if_pos e, e]
  · rw [if_neg e]; exact ask_fill e (by omega)
/-- what a rule's filling leaves -/
def rfil (v : Nat → Nat → Int32) (cd : List (Nat × Nat)) (cl : List (Nat × Nat × Nat)) (k : Nat) : Nat → Nat → Int32 := if fillL (ask v k) cd cl = true ∧ ¬ sw v k = -1 then filF v k (fCost v k) else v
theorem wr_i {M M1x : Nat → Nat → Int64} {n t : Nat} {S S' : Nat → Int64} (h : ∀ j, j < 11 → M 239 (wvx.getD j 0) = S j) (hn : n < 11) (et : wvx.getD n 0 = t) (g : M1x 239 t = S' n) (f : ∀ p r, p ≠ 239 ∨ r ≠ t → M1x p r = M p r) (e : ∀ j, j < 11 → j ≠ n → S' j = S j) : ∀ j, j < 11 → M1x 239 (wvx.getD j 0) = S' j := by
  intro j hj
  by_cases q : j = n
  · rw [q, et]; exact g
  · rw [f 239 _ (Or.inr (fun r => q (wvx_inj j hj n hn (r.trans et.symm)))), e j hj q]; exact h j hj
theorem cs_fillBy (hC : CrAt sh R) (hU : RuAt sh R ru) (hru : RuV I ru cd cl) (hok : ruOK cd cl) (hS : SeaAt sh R s) (hV : SeaV I s v) (hw : Wf v) (hM : MomAt sh R m) (hms : R m 0 = some s) (hW : MomV I m v) {k : Nat} (hk : k < cn v 4) (hm : m + 8 < 237 ∨ 240 < m) (hsm : s + 12 < m ∨ m + 8 < s) (hru2 : m + 8 < ru) (h4x : I 237 4 = sw v k) (hA : ∀ j, j < 11 → L 239 (wvx.getD j 0) = ask v k j) : Ec X 5 4 [.ref 237, .ref m, .ref ru, .int (nI k)] (sh, I, L, R) (fun r h' => r = none ∧ ∃ (J : Nat → Nat → Int32) (M : Nat → Nat → Int64), h' = (sh, J, M, R) ∧ MomV J m (rfil v cd cl k) ∧ (∀ j, j < 11 → M 239 (wvx.getD j 0) = ask (rfil v cd cl k) k j) ∧ (∀ i t, i < m ∨ m + 8 < i → J i t = I i t) ∧ ∀ p q, p ≠ 238 → p ≠ 239 → M p q = L p q) := by
  have l12x := hok.2.2.2.1
  have h44x := hw.1.2.2.2.2.2.1
  refine Ec.of (Nat.le_of_ble_eq_true rfl) ?_
  refine e_ipush rfl ?_
  refine e_istore rfl ?_
  refine Eg.pk [0, 1, 2, 3, 4] [4, 0, 1, 2, 3] rfl (by decide) ?_
  have key : ∀ (l : List (Nat × Nat × Nat)) (i : Nat), i + l.length = cl.length → cl.drop i = l → ∀ M : Nat → Nat → Int64, (∀ p q, p ≠ 238 → M p q = L p q) → Eg X xTc 4 4 3 [(0, .ref 237), (1, .ref m), (2, .ref ru), (3, .int (nI k)), (4, .int (nI i))] [] (sh, I, M, R) (fun r h' => r = none ∧ ∃ (J : Nat → Nat → Int32) (M : Nat → Nat → Int64), h' = (sh, J, M, R) ∧ MomV J m (rfil v cd l k) ∧ (∀ j, j < 11 → M 239 (wvx.getD j 0) = ask (rfil v cd l k) k j) ∧ (∀ i t, i < m ∨ m + 8 < i → J i t = I i t) ∧ ∀ p q, p ≠ 238 → p ≠ 239 → M p q = L p q) := by
    intro l
    induction l with
    | nil =>
      intro i hi hd M m2x
      have ei : i = cl.length := by simpa using hi
      have er : rfil v cd [] k = v := if_neg (fun q => by cases q.1)
      rw [er]
      have mA : ∀ j, j < 11 → M 239 (wvx.getD j 0) = ask v k j := fun j q => (m2x 239 _ (by decide)).trans (hA j q)
      refine e_aload rfl rfl ?_
      refine e_getIv rfl hC.1 h4x ?_
      refine e_ipush rfl ?_
      refine e_ceq_b rfl (fun b8x => ?_) (fun b8x => ?_)
      · exact Eg.ret rfl (by decide) rfl ⟨rfl, I, M, rfl, hW, mA, fun _ _ _ => rfl, fun p q r _ => m2x p q r⟩
      · refine e_iload rfl rfl ?_
        refine e_aload rfl rfl ?_
        refine e_getIv rfl hU.1 hru.2.1 ?_
        refine e_cge_t rfl (by rw [ei]; exact Int32.le_refl _) ?_
        exact Eg.ret rfl (by decide) rfl ⟨rfl, I, M, rfl, hW, mA, fun _ _ _ => rfl, fun p q r _ => m2x p q r⟩
    | cons c l ih =>
      intro i hi hd M m2x
      have il : i < cl.length := by simp at hi; omega
      have hc : cl[i]? = some c := by
        have : (cl.drop i)[0]? = some c := by rw [hd]; rfl
        rw [List.getElem?_drop] at this; exact this
      have hd2x : cl.drop (i + 1) = l := by rw [← List.tail_drop, hd]; rfl
      have ih := ih (i + 1) (by simp at hi; omega) hd2x
      have q1x := hru.2.2.2 i c hc
      obtain ⟨c1x, c2x, c3x, c4x, c5x, c6x⟩ := hok.2.2.2.2 c (List.mem_of_getElem? hc)
      have hl := hok.1
      have mA : ∀ j, j < 11 → M 239 (wvx.getD j 0) = ask v k j := fun j q => (m2x 239 _ (by decide)).trans (hA j q)
      refine e_aload rfl rfl ?_
      refine e_getIv rfl hC.1 h4x ?_
      refine e_ipush rfl ?_
      refine e_ceq_b rfl (fun b8x => ?_) (fun b8x => ?_)
      · have er : rfil v cd (c :: l) k = v := if_neg (fun q => q.2 b8x)
        rw [er]
        exact Eg.ret rfl (by decide) rfl ⟨rfl, I, M, rfl, hW, mA, fun _ _ _ => rfl, fun p q r _ => m2x p q r⟩
      · refine e_iload rfl rfl ?_
        refine e_aload rfl rfl ?_
        refine e_getIv rfl hU.1 hru.2.1 ?_
        refine e_cge_f rfl (fun q => absurd ((nI_lei (by omega) (by omega)).mp q) (by omega)) ?_
        refine e_aload rfl rfl ?_
        refine e_iload rfl rfl ?_
        refine Eg.p2 rfl (by decide) (by decide) rfl (Nat.le_of_ble_eq_true rfl) (xrcv_of rfl hU.1 rfl) ((cs_isFill hU hru hok hc).mono (by decide)) ?_
        refine e_ifeq_b rfl (fun b26x => ?_) (fun b26x => ?_)
        · replace b26x := yn_0.mp b26x
          refine e_iinc rfl rfl ?_
          refine e_goto rfl ?_
          rw [nI_1]
          have eg : rfil v cd (c :: l) k = rfil v cd l k := by unfold rfil; rw [show fillL (ask v k) cd (c :: l) = fillL (ask v k) cd l from if_neg (fun q => b26x q.1)]
          rw [eg]
          exact Eg.pk [0, 1, 2, 3, 4] [4, 0, 1, 2, 3] rfl (by decide) (ih M m2x)
        · replace b26x := yn_n0.mp b26x
          refine e_aload rfl rfl ?_
          refine e_aload rfl rfl ?_
          refine e_iload rfl rfl ?_
          refine Eg.c3 rfl (by decide) (by decide) rfl (Nat.le_of_ble_eq_true rfl) (xrcv_of rfl hC.1 rfl) ((cs_testHolds hC hU hru hok hc (c6x (by omega)) mA).mono (by decide)) (fun r1x h1x hq => ?_)
          obtain ⟨rfl, M1x, rfl, m3x⟩ := hq
          refine e_ifeq_b rfl (fun b36x => ?_) (fun b36x => ?_)
          · replace b36x := yn_0.mp b36x
            refine e_iinc rfl rfl ?_
            refine e_goto rfl ?_
            rw [nI_1]
            have eg : rfil v cd (c :: l) k = rfil v cd l k := by unfold rfil; rw [show fillL (ask v k) cd (c :: l) = fillL (ask v k) cd l from if_neg (fun q => b36x q.2)]
            rw [eg]
            exact Eg.pk [0, 1, 2, 3, 4] [4, 0, 1, 2, 3] rfl (by decide) (ih M1x (fun p q r => (m3x p q r).trans (m2x p q r)))
          · replace b36x := yn_n0.mp b36x
            refine e_aload rfl rfl ?_
            refine e_aload rfl rfl ?_
            refine e_getIv rfl hC.1 h4x ?_
            obtain ⟨bb, bb1x, bb2x, bb3x, bb4x⟩ := (sw_bd hw (k := k)).resolve_left b8x
            rw [bb3x]
            refine e_iload rfl rfl ?_
            refine Eg.c3 rfl (by decide) (by decide) rfl (Nat.le_of_ble_eq_true rfl) (xrcv_of rfl hM.1 rfl) ((cs_fillFrom hS hV hw hM hms hW hk bb4x bb2x hsm).mono (by decide)) (fun r1x h1x hq => ?_)
            obtain ⟨rfl, J, rfl, j1x, j2x⟩ := hq
            have ex : (v 15 k - v 14 k) * pco v bb = fCost v k := by unfold fCost; rw [show wlo v (v 13 k).toNatClampNeg (nI (cn v 7)) = nI bb from bb3x, nI_clamp (by omega)]
            rw [ex] at j1x
            have eg : rfil v cd (c :: l) k = filF v k (fCost v k) := if_pos ⟨if_pos ⟨b26x, b36x⟩, b8x⟩
            rw [eg]
            refine e_pop rfl ?_
            refine e_aload rfl rfl ?_
            refine e_getR rfl hC.1 hC.2.2.2.2.2.1 ?_
            refine e_ipush rfl ?_
            refine e_aload rfl rfl ?_
            refine e_getR rfl hM.1 (hM.2 1 _ rfl).2 ?_
            refine e_iload rfl rfl ?_
            refine e_ialv (t := k) (n := 4) rfl (hM.2 1 _ rfl).1 rfl (by omega) (by decide) ((j1x.2.2.1 k hk).2.1) ?_
            refine e_i2l rfl ?_
            refine e_lasJ (t := 15) (n := 22) rfl hC.2.2.1 rfl (by decide) (by decide) (fun M2x gm2x fm2x => ?_)
            refine e_aload rfl rfl ?_
            refine e_getR rfl hC.1 hC.2.2.2.2.2.1 ?_
            refine e_ipush rfl ?_
            refine e_aload rfl rfl ?_
            refine e_getR rfl hM.1 (hM.2 2 _ rfl).2 ?_
            refine e_iload rfl rfl ?_
            refine e_ialv (t := k) (n := 4) rfl (hM.2 2 _ rfl).1 rfl (by omega) (by decide) ((j1x.2.2.1 k hk).2.2.1) ?_
            refine e_i2l rfl ?_
            refine e_lasJ (t := 21) (n := 22) rfl hC.2.2.1 rfl (by decide) (by decide) (fun M3x gm3x fm3x => ?_)
            exact Eg.ret rfl (by decide) rfl ⟨rfl, J, M3x, rfl, j1x, wr_i (S := fun j => if j = 3 then ask (filF v k (fCost v k)) k 3 else ask v k j) (wr_i (fun j q => (m3x 239 _ (by decide)).trans (mA j q)) (n := 3) (by decide) (t := 15) rfl gm2x fm2x (fun j _ q => if_neg q)) (n := 10) (by decide) (t := 21) rfl gm3x fm3x (fun j q r => ask_f2 q r), j2x, fun p q r r2x => (fm3x p q (Or.inl r2x)).trans ((fm2x p q (Or.inl r2x)).trans ((m3x p q r).trans (m2x p q r)))⟩
  exact key cl 0 (by omega) rfl L (fun _ _ _ => rfl)
end EZ
