/-! RULES worked out: code, the one side; clauses, both sides -/
section EX
variable {X : xX} {h : xH} {sh : List (Nat × Nat)} {I : Nat → Nat → Int32} {L : Nat → Nat → Int64} {R : Nat → Nat → Option Nat} {B : Nat → Nat} {n ri p : Nat} {st : rS}
variable {ru : Nat}
/-- who sails by rules -/
def CrAt (sh : List (Nat × Nat)) (R : Nat → Nat → Option Nat) : Prop := sh[237]? = some (0, 9) ∧ sh[238]? = some (21, 64) ∧ sh[239]? = some (21, 22) ∧ sh[240]? = some (20, 4) ∧ R 237 0 = some 238 ∧ R 237 1 = some 239 ∧ R 237 2 = some 240 ∧ R 237 3 = some 241 ∧ MomAt sh R 241
theorem pc_0 {y : Nat} : pcE (0, y) = nI (1000 + y) := rfl
theorem pc_1 {y : Nat} : pcE (1, y) = nI (wvx.getD y 0) := rfl
theorem pc_k {k : Nat} (hk : 2 ≤ k ∧ k ≤ 15 ∧ k ≠ 9 ∧ k ≠ 12) : ¬ 1000 ≤ pcE (k, 0) ∧ (¬ (pcE (k, 0) = 3 ∨ pcE (k, 0) = 5 ∨ 13 ≤ pcE (k, 0)) ∨ 22 ≤ pcE (k, 0)) ∧ ¬ pcE (k, 0) = 12 := by
  have cs : k = 2 ∨ k = 3 ∨ k = 4 ∨ k = 5 ∨ k = 6 ∨ k = 7 ∨ k = 8 ∨ k = 10 ∨ k = 11 ∨ k = 13 ∨ k = 14 ∨ k = 15 := by omega
  rcases cs with rfl | rfl | rfl | rfl | rfl | rfl | rfl | rfl | rfl | rfl | rfl | rfl <;> decide
theorem pc_w {y : Nat} (hy : y < 11) : wvx.getD y 0 < 22 ∧ (nI (wvx.getD y 0) = 3 ∨ nI (wvx.getD y 0) = 5 ∨ 13 ≤ nI (wvx.getD y 0)) := by
  have h : ∀ y, y < 11 → wvx.getD y 0 < 22 ∧ (nI (wvx.getD y 0) = 3 ∨ nI (wvx.getD y 0) = 5 ∨ 13 ≤ nI (wvx.getD y 0)) := by decide
  exact h y hy
theorem cs_worth (hC : CrAt sh R) (hU : RuAt sh R ru) {W : Nat → Int64} {cd : List (Nat × Nat)} {a b : Nat} {x : Bool} (hcd : ∀ k e, cd[k]? = some e → I (ru + 1) k = pcE e) (hl : cd.length ≤ 300) (hv : ∀ e ∈ cd, vE e) (h6x : nv cd ≤ 60) (hab : a ≤ b) (hb : b ≤ cd.length) (hs : tev (cseg cd a b) [] = some [x]) (hW : ∀ k, k < 11 → L 239 (wvx.getD k 0) = W k) : Ec X 3 7 [.ref 237, .ref ru, .int (nI a), .int (nI b)] (sh, I, L, R) (fun r h' => r = some (.long (evV W cd a b)) ∧ ∃ M : Nat → Nat → Int64, h' = (sh, I, M, R) ∧ ∀ p q, p ≠ 238 → M p q = L p q) := by
  refine Ec.of (Nat.le_of_ble_eq_true rfl) ?_
  refine e_ipush rfl ?_
  refine e_istore rfl ?_
  refine e_iload rfl rfl ?_
  refine e_istore rfl ?_
  refine Eg.pk [0, 1, 3, 4, 5] [5, 4, 0, 1, 2, 3] rfl (by decide) ?_
  have key : ∀ i, i ≤ b → a ≤ i → ∀ M : Nat → Nat → Int64, (∀ j, j < (evA W cd a i).1 → M 238 j = (evA W cd a i).2 j) → (∀ p q, p ≠ 238 → M p q = L p q) → Eg X xTc 2 7 6 [(0, .ref 237), (1, .ref ru), (3, .int (nI b)), (4, .int (nI (evA W cd a i).1)), (5, .int (nI i))] [] (sh, I, M, R) (fun r h' => r = some (.long (evV W cd a b)) ∧ ∃ M : Nat → Nat → Int64, h' = (sh, I, M, R) ∧ ∀ p q, p ≠ 238 → M p q = L p q) := by
    intro i hib
    refine up_ind (p := fun i => a ≤ i → ∀ M : Nat → Nat → Int64, (∀ j, j < (evA W cd a i).1 → M 238 j = (evA W cd a i).2 j) → (∀ p q, p ≠ 238 → M p q = L p q) → Eg X xTc 2 7 6 [(0, .ref 237), (1, .ref ru), (3, .int (nI b)), (4, .int (nI (evA W cd a i).1)), (5, .int (nI i))] [] (sh, I, M, R) (fun r h' => r = some (.long (evV W cd a b)) ∧ ∃ M : Nat → Nat → Int64, h' = (sh, I, M, R) ∧ ∀ p q, p ≠ 238 → M p q = L p q)) (n := b) (j := i) (fun i hi ih hai M m1x m2x => ?_) (fun hai M m1x m2x => ?_) hib
    · obtain ⟨⟨k, y⟩, he⟩ : ∃ e, cd[i]? = some e := ⟨cd[i]'(by omega), List.getElem?_eq_getElem (by omega)⟩
      obtain ⟨z1x, z2x, z3x, ve⟩ := ev_step (W := W) hs hv h6x hb hai hi he
      have ez := evA_s (W := W) hai he
      have ih := ih (by omega)
      rw [ez] at ih
      generalize evA W cd a i = z at z1x z2x z3x ih m1x ez ⊢
      have c1x := hcd i _ he
      have kc : (k = 0 ∧ y ≤ 99999) ∨ (k = 1 ∧ y < 11) ∨ (k = 9 ∧ y = 0) ∨ ((2 ≤ k ∧ k ≤ 15 ∧ k ≠ 9 ∧ k ≠ 12) ∧ y = 0) := by
        rcases ve with q | q | ⟨q1x, q2x, q3x, q4x⟩
        · exact Or.inl q
        · exact Or.inr (Or.inl q)
        · have : 2 ≤ k := q1x
          have : k ≤ 15 := q2x
          have : k ≠ 12 := q3x
          have : y = 0 := q4x
          omega
      rcases kc with ⟨rfl, y9x⟩ | ⟨rfl, y11x⟩ | ⟨rfl, rfl⟩ | ⟨hk, rfl⟩
      · replace c1x : I (ru + 1) i = nI (1000 + y) := c1x
        have z2x := z2x (Nat.zero_le _)
        refine e_iload rfl rfl ?_
        refine e_iload rfl rfl ?_
        refine e_cge_f rfl (nI_ge hi (by omega)) ?_
        refine e_aload rfl rfl ?_
        refine e_getR rfl hU.1 (hU.2 0 _ rfl).2 ?_
        refine e_iload rfl rfl ?_
        refine e_ialv (t := i) (n := 400) rfl (hU.2 0 _ rfl).1 rfl (by omega) (by decide) c1x ?_
        refine e_istore rfl ?_
        refine e_iload rfl rfl ?_
        refine e_ipush rfl ?_
        refine e_cge_t rfl ((nI_lei (a := 1000) (by decide) (by omega)).mpr (by omega)) ?_
        refine e_iload rfl rfl ?_
        refine e_aload rfl rfl ?_
        refine e_getR rfl hC.1 hC.2.2.2.2.1 ?_
        refine e_alen rfl hC.2.1 (by decide) ?_
        refine e_cge_f rfl (nI_ge (b := 64) (by omega) (by decide)) ?_
        refine e_aload rfl rfl ?_
        refine e_getR rfl hC.1 hC.2.2.2.2.1 ?_
        refine e_iload rfl rfl ?_
        refine e_iload rfl rfl ?_
        refine e_ipush rfl ?_
        refine e_clt_f rfl (fun q => absurd ((nI_lti (b := 1000) (by omega) (by decide)).mp q) (by omega)) ?_
        refine e_iload rfl rfl ?_
        refine e_ipush rfl ?_
        refine e_isub rfl ?_
        rw [show (nI (1000 + y)) - 1000 = nI y from (by rw [show (1000 : Int32) = nI 1000 from rfl, nI_sub (by omega), show 1000 + y - 1000 = y by omega])]
        refine e_i2l rfl ?_
        refine e_goto rfl ?_
        refine e_lasJ (t := z.1) (n := 64) rfl hC.2.1 rfl (by omega) (by decide) (fun M1x gm1x fm1x => ?_)
        refine e_iinc rfl rfl ?_
        refine e_goto rfl ?_
        refine e_iinc rfl rfl ?_
        refine e_goto rfl ?_
        refine Eg.pk [0, 1, 3, 4, 5] [5, 4, 6, 0, 1, 3] rfl (by decide) ?_
        rw [nI_1]
        rw [nI_1]
        exact ih M1x (stk_up m1x gm1x fm1x (Or.inr ⟨rfl, rfl⟩)) (fun p q r => (fm1x p q (Or.inl r)).trans (m2x p q r))
      · replace c1x : I (ru + 1) i = nI (wvx.getD y 0) := c1x
        have z2x := z2x (Nat.le_refl _)
        obtain ⟨w1x, w2x⟩ := pc_w y11x
        refine e_iload rfl rfl ?_
        refine e_iload rfl rfl ?_
        refine e_cge_f rfl (nI_ge hi (by omega)) ?_
        refine e_aload rfl rfl ?_
        refine e_getR rfl hU.1 (hU.2 0 _ rfl).2 ?_
        refine e_iload rfl rfl ?_
        refine e_ialv (t := i) (n := 400) rfl (hU.2 0 _ rfl).1 rfl (by omega) (by decide) c1x ?_
        refine e_istore rfl ?_
        refine e_iload rfl rfl ?_
        refine e_ipush rfl ?_
        refine e_cge_f rfl (fun q => absurd ((nI_lei (a := 1000) (by decide) (by omega)).mp q) (by omega)) ?_
        refine e_iload rfl rfl ?_
        refine Eg.p1 rfl (by decide) (by decide) rfl (Nat.le_of_ble_eq_true rfl) (xrcv_ofs (Or.inl rfl)) (cs_isVW.mono (by decide)) ?_
        refine e_ifeq_f rfl (yn_n0.mpr w2x) ?_
        refine e_iload rfl rfl ?_
        refine e_ipush rfl ?_
        refine e_cge_f rfl (fun q => absurd ((nI_lei (a := 22) (by decide) (by omega)).mp q) (by omega)) ?_
        refine e_iload rfl rfl ?_
        refine e_aload rfl rfl ?_
        refine e_getR rfl hC.1 hC.2.2.2.2.1 ?_
        refine e_alen rfl hC.2.1 (by decide) ?_
        refine e_cge_f rfl (nI_ge (b := 64) (by omega) (by decide)) ?_
        refine e_aload rfl rfl ?_
        refine e_getR rfl hC.1 hC.2.2.2.2.1 ?_
        refine e_iload rfl rfl ?_
        refine e_iload rfl rfl ?_
        refine e_ipush rfl ?_
        refine e_clt_t rfl ((nI_lti (b := 1000) (by omega) (by decide)).mpr (by omega)) ?_
        refine e_aload rfl rfl ?_
        refine e_getR rfl hC.1 hC.2.2.2.2.2.1 ?_
        refine e_iload rfl rfl ?_
        refine e_lalv (t := (wvx.getD y 0)) (n := 22) rfl hC.2.2.1 rfl w1x (by decide) ((m2x 239 _ (by decide)).trans (hW y y11x)) ?_
        refine e_lasJ (t := z.1) (n := 64) rfl hC.2.1 rfl (by omega) (by decide) (fun M1x gm1x fm1x => ?_)
        refine e_iinc rfl rfl ?_
        refine e_goto rfl ?_
        refine e_iinc rfl rfl ?_
        refine e_goto rfl ?_
        refine Eg.pk [0, 1, 3, 4, 5] [5, 4, 6, 0, 1, 3] rfl (by decide) ?_
        rw [nI_1]
        rw [nI_1]
        exact ih M1x (stk_up m1x gm1x fm1x (Or.inr ⟨rfl, rfl⟩)) (fun p q r => (fm1x p q (Or.inl r)).trans (m2x p q r))
      · replace c1x : I (ru + 1) i = nI 12 := c1x
        obtain ⟨z4x, z5x⟩ := z3x.1 rfl
        refine e_iload rfl rfl ?_
        refine e_iload rfl rfl ?_
        refine e_cge_f rfl (nI_ge hi (by omega)) ?_
        refine e_aload rfl rfl ?_
        refine e_getR rfl hU.1 (hU.2 0 _ rfl).2 ?_
        refine e_iload rfl rfl ?_
        refine e_ialv (t := i) (n := 400) rfl (hU.2 0 _ rfl).1 rfl (by omega) (by decide) c1x ?_
        refine e_istore rfl ?_
        refine e_iload rfl rfl ?_
        refine e_ipush rfl ?_
        refine e_cge_f rfl (by decide) ?_
        refine e_iload rfl rfl ?_
        refine Eg.p1 rfl (by decide) (by decide) rfl (Nat.le_of_ble_eq_true rfl) (xrcv_ofs (Or.inl rfl)) (cs_isVW.mono (by decide)) ?_
        refine e_ifeq_t rfl (yn_f (by decide)) ?_
        refine e_iload rfl rfl ?_
        refine e_ipush rfl ?_
        refine e_cne_f rfl rfl ?_
        refine e_iload rfl rfl ?_
        refine e_ifle_f rfl (fun q => absurd ((nI_le0 (by omega)).mp q) (by omega)) ?_
        refine e_aload rfl rfl ?_
        refine e_getR rfl hC.1 hC.2.2.2.2.1 ?_
        refine e_iload rfl rfl ?_
        refine e_ipush rfl ?_
        refine e_isub rfl ?_
        rw [show (nI z.1) - 1 = nI (z.1 - 1) from (nI_sub (b := 1) z4x)]
        refine e_aload rfl rfl ?_
        refine e_getR rfl hC.1 hC.2.2.2.2.1 ?_
        refine e_iload rfl rfl ?_
        refine e_ipush rfl ?_
        refine e_isub rfl ?_
        rw [show (nI z.1) - 1 = nI (z.1 - 1) from (nI_sub (b := 1) z4x)]
        refine e_lalv (t := (z.1 - 1)) (n := 64) rfl hC.2.1 rfl (by omega) (by decide) (m1x (z.1 - 1) (by omega)) ?_
        refine e_lpush rfl ?_
        refine e_lcmp rfl ?_
        refine e_ifne_b rfl (fun b123x => ?_) (fun b123x => ?_)
        · refine e_lpush rfl ?_
          refine e_lasJ (t := (z.1 - 1)) (n := 64) rfl hC.2.1 rfl (by omega) (by decide) (fun M1x gm1x fm1x => ?_)
          refine e_goto rfl ?_
          refine e_iinc rfl rfl ?_
          refine e_goto rfl ?_
          refine Eg.pk [0, 1, 3, 4, 5] [5, 6, 0, 1, 3, 4] rfl (by decide) ?_
          rw [nI_1]
          exact ih M1x (stk_up m1x (gm1x.trans (by rw [z5x.resolve_left (fun q => b123x (lg_eq0.mpr q))]; rfl)) fm1x (Or.inl (Nat.le_refl _))) (fun p q r => (fm1x p q (Or.inl r)).trans (m2x p q r))
        · refine e_lpush rfl ?_
          refine e_goto rfl ?_
          refine e_lasJ (t := (z.1 - 1)) (n := 64) rfl hC.2.1 rfl (by omega) (by decide) (fun M1x gm1x fm1x => ?_)
          refine e_goto rfl ?_
          refine e_iinc rfl rfl ?_
          refine e_goto rfl ?_
          refine Eg.pk [0, 1, 3, 4, 5] [5, 6, 0, 1, 3, 4] rfl (by decide) ?_
          rw [nI_1]
          exact ih M1x (stk_up m1x (gm1x.trans (by rw [lg_eq0.mp b123x]; rfl)) fm1x (Or.inl (Nat.le_refl _))) (fun p q r => (fm1x p q (Or.inl r)).trans (m2x p q r))
      · replace c1x : I (ru + 1) i = pcE (k, 0) := c1x
        have z4x := z3x.2 hk.1 hk.2.2.1
        rw [evE_k hk.1 hk.2.2.1] at ih
        obtain ⟨w1x, w2x, w3x⟩ := pc_k hk
        refine e_iload rfl rfl ?_
        refine e_iload rfl rfl ?_
        refine e_cge_f rfl (nI_ge hi (by omega)) ?_
        refine e_aload rfl rfl ?_
        refine e_getR rfl hU.1 (hU.2 0 _ rfl).2 ?_
        refine e_iload rfl rfl ?_
        refine e_ialv (t := i) (n := 400) rfl (hU.2 0 _ rfl).1 rfl (by omega) (by decide) c1x ?_
        refine e_istore rfl ?_
        refine e_iload rfl rfl ?_
        refine e_ipush rfl ?_
        refine e_cge_f rfl w1x ?_
        refine e_iload rfl rfl ?_
        refine Eg.p1 rfl (by decide) (by decide) rfl (Nat.le_of_ble_eq_true rfl) (xrcv_ofs (Or.inl rfl)) (cs_isVW.mono (by decide)) ?_
        refine e_ifeq_b rfl (fun b34x => ?_) (fun b34x => ?_)
        · refine e_iload rfl rfl ?_
          refine e_ipush rfl ?_
          refine e_cne_t rfl w3x ?_
          refine e_iload rfl rfl ?_
          refine e_ipush rfl ?_
          refine e_cle_f rfl (fun q => absurd ((nI_lei (b := 1) (by omega) (by decide)).mp q) (by omega)) ?_
          refine e_iinc rfl rfl ?_
          rw [nI_dn (by omega)]
          refine e_aload rfl rfl ?_
          refine e_getR rfl hC.1 hC.2.2.2.2.1 ?_
          refine e_iload rfl rfl ?_
          refine e_ipush rfl ?_
          refine e_isub rfl ?_
          rw [show (nI (z.1 - 1)) - 1 = nI (z.1 - 2) from (nI_sub (a := z.1 - 1) (b := 1) (by omega))]
          refine e_iload rfl rfl ?_
          refine e_aload rfl rfl ?_
          refine e_getR rfl hC.1 hC.2.2.2.2.1 ?_
          refine e_iload rfl rfl ?_
          refine e_ipush rfl ?_
          refine e_isub rfl ?_
          rw [show (nI (z.1 - 1)) - 1 = nI (z.1 - 2) from (nI_sub (a := z.1 - 1) (b := 1) (by omega))]
          refine e_lalv (t := (z.1 - 2)) (n := 64) rfl hC.2.1 rfl (by omega) (by decide) (m1x (z.1 - 2) (by omega)) ?_
          refine e_aload rfl rfl ?_
          refine e_getR rfl hC.1 hC.2.2.2.2.1 ?_
          refine e_iload rfl rfl ?_
          refine e_lalv (t := (z.1 - 1)) (n := 64) rfl hC.2.1 rfl (by omega) (by decide) (m1x (z.1 - 1) (by omega)) ?_
          refine Eg.p3 rfl (by decide) (by decide) rfl (Nat.le_of_ble_eq_true rfl) (xrcv_ofs (Or.inl rfl)) ((cs_joined hk).mono (by decide)) ?_
          refine e_lasJ (t := (z.1 - 2)) (n := 64) rfl hC.2.1 rfl (by omega) (by decide) (fun M1x gm1x fm1x => ?_)
          refine e_iinc rfl rfl ?_
          refine e_goto rfl ?_
          refine Eg.pk [0, 1, 3, 4, 5] [5, 4, 6, 0, 1, 3] rfl (by decide) ?_
          rw [nI_1]
          exact ih M1x (stk_up m1x gm1x fm1x (Or.inl (by show z.1 - 1 ≤ z.1; omega))) (fun p q r => (fm1x p q (Or.inl r)).trans (m2x p q r))
        · replace b34x := yn_n0.mp b34x
          refine e_iload rfl rfl ?_
          refine e_ipush rfl ?_
          refine e_cge_t rfl (w2x.resolve_left (fun q => q b34x)) ?_
          refine e_iload rfl rfl ?_
          refine e_ipush rfl ?_
          refine e_cne_t rfl w3x ?_
          refine e_iload rfl rfl ?_
          refine e_ipush rfl ?_
          refine e_cle_f rfl (fun q => absurd ((nI_lei (b := 1) (by omega) (by decide)).mp q) (by omega)) ?_
          refine e_iinc rfl rfl ?_
          rw [nI_dn (by omega)]
          refine e_aload rfl rfl ?_
          refine e_getR rfl hC.1 hC.2.2.2.2.1 ?_
          refine e_iload rfl rfl ?_
          refine e_ipush rfl ?_
          refine e_isub rfl ?_
          rw [show (nI (z.1 - 1)) - 1 = nI (z.1 - 2) from (nI_sub (a := z.1 - 1) (b := 1) (by omega))]
          refine e_iload rfl rfl ?_
          refine e_aload rfl rfl ?_
          refine e_getR rfl hC.1 hC.2.2.2.2.1 ?_
          refine e_iload rfl rfl ?_
          refine e_ipush rfl ?_
          refine e_isub rfl ?_
          rw [show (nI (z.1 - 1)) - 1 = nI (z.1 - 2) from (nI_sub (a := z.1 - 1) (b := 1) (by omega))]
          refine e_lalv (t := (z.1 - 2)) (n := 64) rfl hC.2.1 rfl (by omega) (by decide) (m1x (z.1 - 2) (by omega)) ?_
          refine e_aload rfl rfl ?_
          refine e_getR rfl hC.1 hC.2.2.2.2.1 ?_
          refine e_iload rfl rfl ?_
          refine e_lalv (t := (z.1 - 1)) (n := 64) rfl hC.2.1 rfl (by omega) (by decide) (m1x (z.1 - 1) (by omega)) ?_
          refine Eg.p3 rfl (by decide) (by decide) rfl (Nat.le_of_ble_eq_true rfl) (xrcv_ofs (Or.inl rfl)) ((cs_joined hk).mono (by decide)) ?_
          refine e_lasJ (t := (z.1 - 2)) (n := 64) rfl hC.2.1 rfl (by omega) (by decide) (fun M1x gm1x fm1x => ?_)
          refine e_iinc rfl rfl ?_
          refine e_goto rfl ?_
          refine Eg.pk [0, 1, 3, 4, 5] [5, 4, 6, 0, 1, 3] rfl (by decide) ?_
          rw [nI_1]
          exact ih M1x (stk_up m1x gm1x fm1x (Or.inl (by show z.1 - 1 ≤ z.1; omega))) (fun p q r => (fm1x p q (Or.inl r)).trans (m2x p q r))
    · obtain ⟨e1x, -⟩ := ev_end (W := W) hs hv
      refine e_iload rfl rfl ?_
      refine e_iload rfl rfl ?_
      refine e_cge_t rfl (Int32.le_refl _) ?_
      refine e_iload rfl rfl ?_
      refine e_ifle_f rfl (by rw [e1x]; decide) ?_
      refine e_aload rfl rfl ?_
      refine e_getR rfl hC.1 hC.2.2.2.2.1 ?_
      refine e_ipush rfl ?_
      refine e_lalv (t := 0) (n := 64) rfl hC.2.1 rfl (by decide) (by decide) (m1x 0 (by rw [e1x]; decide)) ?_
      refine e_goto rfl ?_
      exact Eg.ret rfl (by decide) rfl ⟨rfl, M, rfl, m2x⟩
  have k0x := key a hab (Nat.le_refl _) L (fun j q => by rw [evA_0] at q; exact absurd q (Nat.not_lt_zero _)) (fun _ _ _ => rfl)
  rw [evA_0] at k0x
  exact k0x
variable {W : Nat → Int64} {cd : List (Nat × Nat)} {cl : List (Nat × Nat × Nat)}
theorem ms_holds (hM : MW sh R) (hri : ri < 6) (hmu : MuV I ri cd cl) (hok : ruOK cd cl) (h61x : I 340 ri = nI cl.length) {i : Nat} {c : Nat × Nat × Nat} (hi : cl[i]? = some c) (hW : ∀ k, k < 11 → L 346 k = W k) : Ec X 4 227 [.ref 290, .int (nI ri), .int (nI (12 * ri + i))] (sh, I, L, R) (fun r h' => r = some (.int (yn (holdB W cd c = true))) ∧ ∃ M : Nat → Nat → Int64, h' = (sh, I, M, R) ∧ ∀ p q, p ≠ 347 → M p q = L p q) := by
  obtain ⟨k1x, k2x, k3x, k4x⟩ := hmu.2 i c hi
  obtain ⟨c1x, c2x, c3x, c4x, c5x, c6x⟩ := hok.2.2.2.2 c (List.mem_of_getElem? hi)
  have hl := hok.1
  have il : i < cl.length := by
    apply Decidable.byContradiction; intro q
    rw [List.getElem?_eq_none (by omega)] at hi; cases hi
  have l12x := hok.2.2.2.1
  refine Ec.of (Nat.le_of_ble_eq_true rfl) ?_
  refine e_aload rfl rfl ?_
  refine e_getR rfl hM.1 (show R 290 63 = some 342 from (hM.2 51 _ rfl).2) ?_
  refine e_iload rfl rfl ?_
  refine e_ialv (t := 12 * ri + i) (n := 72) rfl (show sh[342]? = some (20, 72) from (hM.2 51 _ rfl).1) rfl (by omega) (by decide) k2x ?_
  refine e_aload rfl rfl ?_
  refine e_getR rfl hM.1 (show R 290 64 = some 343 from (hM.2 52 _ rfl).2) ?_
  refine e_iload rfl rfl ?_
  refine e_ialv (t := 12 * ri + i) (n := 72) rfl (show sh[343]? = some (20, 72) from (hM.2 52 _ rfl).1) rfl (by omega) (by decide) k3x ?_
  refine e_ceq_b rfl (fun b12x => ?_) (fun b12x => ?_)
  · replace b12x : c.2.1 = c.2.2 := (nI_eq (by omega) (by omega)).mp b12x
    refine e_ipush rfl ?_
    refine e_goto rfl ?_
    exact Eg.ret rfl (by decide) rfl ⟨congrArg (fun z => some (Value.int z)) (yn_t (decide_eq_true (Or.inl b12x))).symm, L, rfl, fun _ _ _ => rfl⟩
  · replace b12x : ¬ c.2.1 = c.2.2 := fun q => b12x (by rw [q])
    refine e_aload rfl rfl ?_
    refine e_iload rfl rfl ?_
    refine e_aload rfl rfl ?_
    refine e_getR rfl hM.1 (show R 290 63 = some 342 from (hM.2 51 _ rfl).2) ?_
    refine e_iload rfl rfl ?_
    refine e_ialv (t := 12 * ri + i) (n := 72) rfl (show sh[342]? = some (20, 72) from (hM.2 51 _ rfl).1) rfl (by omega) (by decide) k2x ?_
    refine e_aload rfl rfl ?_
    refine e_getR rfl hM.1 (show R 290 64 = some 343 from (hM.2 52 _ rfl).2) ?_
    refine e_iload rfl rfl ?_
    refine e_ialv (t := 12 * ri + i) (n := 72) rfl (show sh[343]? = some (20, 72) from (hM.2 52 _ rfl).1) rfl (by omega) (by decide) k3x ?_
    refine Eg.c4 rfl (by decide) (by decide) rfl (Nat.le_of_ble_eq_true rfl) (xrcv_of rfl hM.1 rfl) ((ms_answer hM hri hmu.1 hok.1 hok.2.1 hok.2.2.1 c2x c3x (c5x (by omega)) hW).mono (by decide)) (fun r1x h1x hq => ?_)
    obtain ⟨rfl, M, rfl, m2x⟩ := hq
    refine e_lpush rfl ?_
    refine e_lcmp rfl ?_
    refine e_ifne_b rfl (fun b34x => ?_) (fun b34x => ?_)
    · refine e_ipush rfl ?_
      exact Eg.ret rfl (by decide) rfl ⟨congrArg (fun z => some (Value.int z)) (yn_f (fun q => (of_decide_eq_true q).elim b12x (fun r => b34x (lg_eq0.mpr r)))).symm, M, rfl, m2x⟩
    · refine e_ipush rfl ?_
      refine e_goto rfl ?_
      exact Eg.ret rfl (by decide) rfl ⟨congrArg (fun z => some (Value.int z)) (yn_t (decide_eq_true (Or.inr (lg_eq0.mp b34x)))).symm, M, rfl, m2x⟩
theorem ms_fillsBy (hM : MW sh R) (hri : ri < 6) (hmu : MuV I ri cd cl) (hok : ruOK cd cl) (h61x : I 340 ri = nI cl.length) (hW : ∀ k, k < 11 → L 346 k = W k) : Ec X 5 228 [.ref 290, .int (nI ri)] (sh, I, L, R) (fun r h' => r = some (.int (yn (fillL W cd cl = true))) ∧ ∃ M : Nat → Nat → Int64, h' = (sh, I, M, R) ∧ ∀ p q, p ≠ 347 → M p q = L p q) := by
  have l12x := hok.2.2.2.1
  refine Ec.of (Nat.le_of_ble_eq_true rfl) ?_
  refine e_ipush rfl ?_
  refine e_iload rfl rfl ?_
  refine e_imul rfl ?_
  refine e_istore rfl ?_
  rw [show (12 : Int32) * nI ri = nI (12 * ri) from nI_times 12 ri]
  refine Eg.pk [0, 1, 2] [2, 0, 1] rfl (by decide) ?_
  have key : ∀ (l : List (Nat × Nat × Nat)) (i : Nat), i + l.length = cl.length → cl.drop i = l → ∀ M : Nat → Nat → Int64, (∀ p q, p ≠ 347 → M p q = L p q) → Eg X xTc 4 228 5 [(0, .ref 290), (1, .int (nI ri)), (2, .int (nI (12 * ri + i)))] [] (sh, I, M, R) (fun r h' => r = some (.int (yn (fillL W cd l = true))) ∧ ∃ M : Nat → Nat → Int64, h' = (sh, I, M, R) ∧ ∀ p q, p ≠ 347 → M p q = L p q) := by
    intro l
    induction l with
    | nil =>
      intro i hi hd M m2x
      have ei : i = cl.length := by simpa using hi
      refine e_iload rfl rfl ?_
      refine e_ipush rfl ?_
      refine e_iload rfl rfl ?_
      refine e_imul rfl ?_
      rw [show 12 * (nI ri) = nI (12 * ri) from (nI_times 12 ri)]
      refine e_aload rfl rfl ?_
      refine e_getR rfl hM.1 (show R 290 61 = some 340 from (hM.2 49 _ rfl).2) ?_
      refine e_iload rfl rfl ?_
      refine e_ialv (t := ri) (n := 6) rfl (show sh[340]? = some (20, 6) from (hM.2 49 _ rfl).1) rfl (by omega) (by decide) h61x ?_
      refine e_iadd rfl ?_
      rw [show (nI (12 * ri)) + (nI cl.length) = nI (12 * ri + cl.length) from (nI_add _ _)]
      refine e_cge_t rfl (by rw [ei]; exact Int32.le_refl _) ?_
      refine e_ipush rfl ?_
      exact Eg.ret rfl (by decide) rfl ⟨congrArg (fun z => some (Value.int z)) (yn_f (by intro q; cases q)).symm, M, rfl, m2x⟩
    | cons c l ih =>
      intro i hi hd M m2x
      have il : i < cl.length := by simp at hi; omega
      have hc : cl[i]? = some c := by
        have : (cl.drop i)[0]? = some c := by rw [hd]; rfl
        rw [List.getElem?_drop] at this; exact this
      have hd2x : cl.drop (i + 1) = l := by rw [← List.tail_drop, hd]; rfl
      have ih := ih (i + 1) (by simp at hi; omega) hd2x
      obtain ⟨k1x, k2x, k3x, k4x⟩ := hmu.2 i c hc
      obtain ⟨c1x, c2x, c3x, c4x, c5x, c6x⟩ := hok.2.2.2.2 c (List.mem_of_getElem? hc)
      have hl := hok.1
      have hWM : ∀ k, k < 11 → M 346 k = W k := fun k q => (m2x 346 k (by decide)).trans (hW k q)
      refine e_iload rfl rfl ?_
      refine e_ipush rfl ?_
      refine e_iload rfl rfl ?_
      refine e_imul rfl ?_
      rw [show 12 * (nI ri) = nI (12 * ri) from (nI_times 12 ri)]
      refine e_aload rfl rfl ?_
      refine e_getR rfl hM.1 (show R 290 61 = some 340 from (hM.2 49 _ rfl).2) ?_
      refine e_iload rfl rfl ?_
      refine e_ialv (t := ri) (n := 6) rfl (show sh[340]? = some (20, 6) from (hM.2 49 _ rfl).1) rfl (by omega) (by decide) h61x ?_
      refine e_iadd rfl ?_
      rw [show (nI (12 * ri)) + (nI cl.length) = nI (12 * ri + cl.length) from (nI_add _ _)]
      refine e_cge_f rfl (fun q => absurd ((nI_lei (by omega) (by omega)).mp q) (by omega)) ?_
      refine e_aload rfl rfl ?_
      refine e_getR rfl hM.1 (show R 290 66 = some 345 from (hM.2 54 _ rfl).2) ?_
      refine e_iload rfl rfl ?_
      refine e_zalv (t := (12 * ri + i)) (n := 72) rfl (show sh[345]? = some (22, 72) from (hM.2 54 _ rfl).1) rfl (by omega) (by decide) k4x ?_
      refine e_ifne_b rfl (fun b26x => ?_) (fun b26x => ?_)
      · replace b26x := yn_n0.mp b26x
        refine e_iinc rfl rfl ?_
        refine e_goto rfl ?_
        rw [nI_1, Nat.add_assoc]
        have eg : fillL W cd (c :: l) = fillL W cd l := if_neg (fun q => q.1 b26x)
        rw [eg]
        exact Eg.pk [0, 1, 2] [2, 0, 1] rfl (by decide) (ih M m2x)
      · replace b26x := yn_0.mp b26x
        refine e_aload rfl rfl ?_
        refine e_iload rfl rfl ?_
        refine e_iload rfl rfl ?_
        refine Eg.c3 rfl (by decide) (by decide) rfl (Nat.le_of_ble_eq_true rfl) (xrcv_of rfl hM.1 rfl) ((ms_holds hM hri hmu hok h61x hc hWM).mono (by decide)) (fun r1x h1x hq => ?_)
        obtain ⟨rfl, M1x, rfl, m3x⟩ := hq
        have hWM1 : ∀ k, k < 11 → M1x 346 k = W k := fun k q => (m3x 346 k (by decide)).trans (hWM k q)
        refine e_ifeq_b rfl (fun b35x => ?_) (fun b35x => ?_)
        · replace b35x := yn_0.mp b35x
          refine e_iinc rfl rfl ?_
          refine e_goto rfl ?_
          rw [nI_1, Nat.add_assoc]
          have eg : fillL W cd (c :: l) = fillL W cd l := if_neg (fun q => b35x q.2)
          rw [eg]
          exact Eg.pk [0, 1, 2] [2, 0, 1] rfl (by decide) (ih M1x (fun p q r => (m3x p q r).trans (m2x p q r)))
        · replace b35x := yn_n0.mp b35x
          refine e_ipush rfl ?_
          exact Eg.ret rfl (by decide) rfl ⟨congrArg (fun z => some (Value.int z)) (yn_t (if_pos ⟨b26x, b35x⟩)).symm, M1x, rfl, fun p q r => (m3x p q r).trans (m2x p q r)⟩
  exact key cl 0 (by omega) rfl L (fun _ _ _ => rfl)
theorem ms_goBy (hM : MW sh R) (hri : ri < 6) (hmu : MuV I ri cd cl) (hok : ruOK cd cl) (h61x : I 340 ri = nI cl.length) (hW : ∀ k, k < 11 → L 346 k = W k) : Ec X 5 229 [.ref 290, .int (nI ri)] (sh, I, L, R) (fun r h' => r = some (.long (goL W cd cl)) ∧ ∃ M : Nat → Nat → Int64, h' = (sh, I, M, R) ∧ ∀ p q, p ≠ 347 → M p q = L p q) := by
  have l12x := hok.2.2.2.1
  refine Ec.of (Nat.le_of_ble_eq_true rfl) ?_
  refine e_ipush rfl ?_
  refine e_iload rfl rfl ?_
  refine e_imul rfl ?_
  refine e_istore rfl ?_
  rw [show (12 : Int32) * nI ri = nI (12 * ri) from nI_times 12 ri]
  refine Eg.pk [0, 1, 2] [2, 0, 1] rfl (by decide) ?_
  have key : ∀ (l : List (Nat × Nat × Nat)) (i : Nat), i + l.length = cl.length → cl.drop i = l → ∀ M : Nat → Nat → Int64, (∀ p q, p ≠ 347 → M p q = L p q) → Eg X xTc 4 229 5 [(0, .ref 290), (1, .int (nI ri)), (2, .int (nI (12 * ri + i)))] [] (sh, I, M, R) (fun r h' => r = some (.long (goL W cd l)) ∧ ∃ M : Nat → Nat → Int64, h' = (sh, I, M, R) ∧ ∀ p q, p ≠ 347 → M p q = L p q) := by
    intro l
    induction l with
    | nil =>
      intro i hi hd M m2x
      have ei : i = cl.length := by simpa using hi
      refine e_iload rfl rfl ?_
      refine e_ipush rfl ?_
      refine e_iload rfl rfl ?_
      refine e_imul rfl ?_
      rw [show 12 * (nI ri) = nI (12 * ri) from (nI_times 12 ri)]
      refine e_aload rfl rfl ?_
      refine e_getR rfl hM.1 (show R 290 61 = some 340 from (hM.2 49 _ rfl).2) ?_
      refine e_iload rfl rfl ?_
      refine e_ialv (t := ri) (n := 6) rfl (show sh[340]? = some (20, 6) from (hM.2 49 _ rfl).1) rfl (by omega) (by decide) h61x ?_
      refine e_iadd rfl ?_
      rw [show (nI (12 * ri)) + (nI cl.length) = nI (12 * ri + cl.length) from (nI_add _ _)]
      refine e_cge_t rfl (by rw [ei]; exact Int32.le_refl _) ?_
      refine e_lpush rfl ?_
      exact Eg.ret rfl (by decide) rfl ⟨rfl, M, rfl, m2x⟩
    | cons c l ih =>
      intro i hi hd M m2x
      have il : i < cl.length := by simp at hi; omega
      have hc : cl[i]? = some c := by
        have : (cl.drop i)[0]? = some c := by rw [hd]; rfl
        rw [List.getElem?_drop] at this; exact this
      have hd2x : cl.drop (i + 1) = l := by rw [← List.tail_drop, hd]; rfl
      have ih := ih (i + 1) (by simp at hi; omega) hd2x
      obtain ⟨k1x, k2x, k3x, k4x⟩ := hmu.2 i c hc
      obtain ⟨c1x, c2x, c3x, c4x, c5x, c6x⟩ := hok.2.2.2.2 c (List.mem_of_getElem? hc)
      have hl := hok.1
      have hWM : ∀ k, k < 11 → M 346 k = W k := fun k q => (m2x 346 k (by decide)).trans (hW k q)
      refine e_iload rfl rfl ?_
      refine e_ipush rfl ?_
      refine e_iload rfl rfl ?_
      refine e_imul rfl ?_
      rw [show 12 * (nI ri) = nI (12 * ri) from (nI_times 12 ri)]
      refine e_aload rfl rfl ?_
      refine e_getR rfl hM.1 (show R 290 61 = some 340 from (hM.2 49 _ rfl).2) ?_
      refine e_iload rfl rfl ?_
      refine e_ialv (t := ri) (n := 6) rfl (show sh[340]? = some (20, 6) from (hM.2 49 _ rfl).1) rfl (by omega) (by decide) h61x ?_
      refine e_iadd rfl ?_
      rw [show (nI (12 * ri)) + (nI cl.length) = nI (12 * ri + cl.length) from (nI_add _ _)]
      refine e_cge_f rfl (fun q => absurd ((nI_lei (by omega) (by omega)).mp q) (by omega)) ?_
      refine e_aload rfl rfl ?_
      refine e_getR rfl hM.1 (show R 290 66 = some 345 from (hM.2 54 _ rfl).2) ?_
      refine e_iload rfl rfl ?_
      refine e_zalv (t := (12 * ri + i)) (n := 72) rfl (show sh[345]? = some (22, 72) from (hM.2 54 _ rfl).1) rfl (by omega) (by decide) k4x ?_
      refine e_ifeq_b rfl (fun b26x => ?_) (fun b26x => ?_)
      · replace b26x := yn_0.mp b26x
        refine e_iinc rfl rfl ?_
        refine e_goto rfl ?_
        rw [nI_1, Nat.add_assoc]
        have eg : goL W cd (c :: l) = goL W cd l := if_neg (fun q => b26x q.1)
        rw [eg]
        exact Eg.pk [0, 1, 2] [2, 0, 1] rfl (by decide) (ih M m2x)
      · replace b26x := yn_n0.mp b26x
        refine e_aload rfl rfl ?_
        refine e_iload rfl rfl ?_
        refine e_iload rfl rfl ?_
        refine Eg.c3 rfl (by decide) (by decide) rfl (Nat.le_of_ble_eq_true rfl) (xrcv_of rfl hM.1 rfl) ((ms_holds hM hri hmu hok h61x hc hWM).mono (by decide)) (fun r1x h1x hq => ?_)
        obtain ⟨rfl, M1x, rfl, m3x⟩ := hq
        have hWM1 : ∀ k, k < 11 → M1x 346 k = W k := fun k q => (m3x 346 k (by decide)).trans (hWM k q)
        refine e_ifeq_b rfl (fun b35x => ?_) (fun b35x => ?_)
        · replace b35x := yn_0.mp b35x
          refine e_iinc rfl rfl ?_
          refine e_goto rfl ?_
          rw [nI_1, Nat.add_assoc]
          have eg : goL W cd (c :: l) = goL W cd l := if_neg (fun q => b35x q.2)
          rw [eg]
          exact Eg.pk [0, 1, 2] [2, 0, 1] rfl (by decide) (ih M1x (fun p q r => (m3x p q r).trans (m2x p q r)))
        · replace b35x := yn_n0.mp b35x
          refine e_aload rfl rfl ?_
          refine e_iload rfl rfl ?_
          refine e_aload rfl rfl ?_
          refine e_getR rfl hM.1 (show R 290 62 = some 341 from (hM.2 50 _ rfl).2) ?_
          refine e_iload rfl rfl ?_
          refine e_ialv (t := (12 * ri + i)) (n := 72) rfl (show sh[341]? = some (20, 72) from (hM.2 50 _ rfl).1) rfl (by omega) (by decide) k1x ?_
          refine e_aload rfl rfl ?_
          refine e_getR rfl hM.1 (show R 290 63 = some 342 from (hM.2 51 _ rfl).2) ?_
          refine e_iload rfl rfl ?_
          refine e_ialv (t := (12 * ri + i)) (n := 72) rfl (show sh[342]? = some (20, 72) from (hM.2 51 _ rfl).1) rfl (by omega) (by decide) k2x ?_
          refine Eg.c4 rfl (by decide) (by decide) rfl (Nat.le_of_ble_eq_true rfl) (xrcv_of rfl hM.1 rfl) ((ms_answer hM hri hmu.1 hok.1 hok.2.1 hok.2.2.1 c1x (Nat.le_trans c2x c3x) (c4x b26x) hWM1).mono (by decide)) (fun r1x h1x hq => ?_)
          obtain ⟨rfl, M2x, rfl, m4x⟩ := hq
          exact Eg.ret rfl (by decide) rfl ⟨congrArg (fun z => some (Value.long z)) (show _ = goL W cd (c :: l) from (if_pos ⟨b26x, b35x⟩).symm), M2x, rfl, fun p q r => (m4x p q r).trans ((m3x p q r).trans (m2x p q r))⟩
  exact key cl 0 (by omega) rfl L (fun _ _ _ => rfl)
end EX
