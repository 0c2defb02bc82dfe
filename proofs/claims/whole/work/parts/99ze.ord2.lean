/-! order: the class -/
section OC
variable {X : xX} {h : xH} {sh : List (Nat × Nat)} {I : Nat → Nat → Int32} {L : Nat → Nat → Int64} {R : Nat → Nat → Option Nat} {v : Nat → Nat → Int32} {w s m : Nat}
variable {f : Nat}
theorem fsN_eq {p : Nat → Bool} {n k : Nat} (hk : k < n) (h : ∀ i, i < k → ¬ p i = true) (hp : p k = true) : fsN p n = k := by
  obtain ⟨q1x, q2x, q3x⟩ := fsN_ok (p := p) (n := n)
  rcases Nat.lt_trichotomy (fsN p n) k with e | e | e
  · exact absurd (q3x (by omega)) (h _ e)
  · exact e
  · exact absurd hp (q2x k e)
theorem nI_mn {a b : Nat} (ha : a < 2 ^ 31) (hb : b < 2 ^ 31) : (if nI a < nI b then nI a else nI b) = nI (if a < b then a else b) := by
  by_cases c : a < b
  · rw [if_pos c, if_pos ((nI_lti ha hb).mpr c)]
  · rw [if_neg c, if_neg (fun q => c ((nI_lti ha hb).mp q))]
theorem set_gt {A w : Nat} (hA : A < 64) (hw : w < 6) (hb : ¬ A.testBit w = true) : A < A ||| 1 <<< w := by
  have h : (List.range 64).all (fun A => (List.range 6).all (fun w => decide (¬ A.testBit w = true → A < A ||| 1 <<< w))) = true := by decide +kernel
  exact of_decide_eq_true (rgA (rgA h hA) hw) hb
def FlAt (sh : List (Nat × Nat)) (R : Nat → Nat → Option Nat) (f : Nat) : Prop := sh[f]? = some (2, 5) ∧ (sh[f + 1]? = some (20, 6) ∧ R f 1 = some (f + 1)) ∧ (sh[f + 2]? = some (20, 6) ∧ R f 2 = some (f + 2)) ∧ (sh[f + 3]? = some (20, 6) ∧ R f 3 = some (f + 3)) ∧ (sh[f + 4]? = some (20, 64) ∧ R f 4 = some (f + 4))
def FlV (I : Nat → Nat → Int32) (f : Nat) (v : Nat → Nat → Int32) : Prop := I f 0 = nI (cn v 12) ∧ ∀ k, k < cn v 12 → I (f + 1) k = nI (flN v 29 k) ∧ I (f + 2) k = nI (flN v 30 k) ∧ I (f + 3) k = nI (flN v 31 k)
theorem FlV.fr {I J : Nat → Nat → Int32} (h : FlV I f v) (q : ∀ i k, i ≠ f + 4 → J i k = I i k) : FlV J f v :=
  ⟨(q f 0 (by omega)).trans h.1, fun k hk => ⟨(q (f + 1) k (by omega)).trans (h.2 k hk).1, (q (f + 2) k (by omega)).trans (h.2 k hk).2.1, (q (f + 3) k (by omega)).trans (h.2 k hk).2.2⟩⟩
theorem cs_duesWith (hA : FlAt sh R f) (hV : FlV I f v) (hN : cn v 12 ≤ 6) (hF : WfF v) {A u : Nat} (hA2x : A < 1 <<< cn v 12) (hu : u < cn v 12) (ht : I (f + 4) (A ||| 1 <<< u) = nI (oLA v (A ||| 1 <<< u))) : Ec X 1 33 [.ref f, .int (nI A), .int (nI u)] (sh, I, L, R) (fun r h' => r = some (.int (nI (oD v A u))) ∧ h' = (sh, I, L, R)) := by
  have l64x := sixty hN
  have hlt : A ||| 1 <<< u < 64 := Nat.lt_of_lt_of_le (set_ins hN hA2x hu) l64x
  refine Ec.of (Nat.le_of_ble_eq_true rfl) ?_
  refine e_aload rfl rfl ?_
  refine e_getR rfl hA.1 hA.2.1.2 ?_
  refine e_iload rfl rfl ?_
  refine e_ialv (t := u) (n := 6) rfl hA.2.1.1 rfl (by omega) (by decide) (hV.2 u (by omega)).1 ?_
  refine e_istore rfl ?_
  refine e_ipush rfl ?_
  refine e_istore rfl ?_
  refine Eg.pk [0, 1, 2, 3, 4] [4, 3, 0, 1, 2] rfl (by decide) ?_
  refine up_ind (p := fun k => Eg X xTc 0 33 10 [(0, .ref f), (1, .int (nI A)), (2, .int (nI u)), (3, .int (nI (flN v 29 u + oPS v A k))), (4, .int (nI k))] [] (sh, I, L, R) (fun r h' => r = some (.int (nI (oD v A u))) ∧ h' = (sh, I, L, R))) (n := cn v 12) (j := 0) (fun k hk ih => ?_) ?_ (Nat.zero_le _)
  · refine e_iload rfl rfl ?_
    refine e_aload rfl rfl ?_
    refine e_getIv rfl hA.1 hV.1 ?_
    refine e_cge_f rfl (nI_ge hk (by omega)) ?_
    refine e_iload rfl rfl ?_
    refine e_iload rfl rfl ?_
    refine e_ishr rfl ?_
    refine e_ipush rfl ?_
    refine e_iand rfl ?_
    rw [show ((nI A) >>> ((nI k) &&& 31)) &&& (1 : Int32) = if A.testBit k = true then 1 else 0 from nI_bit (by omega) (by omega)]
    refine e_ifeq_b rfl (fun b25x => ?_) (fun b25x => ?_)
    · have hb : ¬ A.testBit k = true := fun q => by rw [if_pos q] at b25x; exact absurd b25x (by decide)
      refine e_iinc rfl rfl ?_
      refine e_goto rfl ?_
      refine Eg.pk [0, 1, 2, 3, 4] [4, 0, 1, 2, 3] rfl (by decide) ?_
      rw [nI_1]
      rw [show oPS v A (k + 1) = oPS v A k from if_neg hb] at ih
      exact ih
    · have hb : A.testBit k = true := Decidable.byContradiction (fun q => b25x (if_neg q))
      refine e_iload rfl rfl ?_
      refine e_aload rfl rfl ?_
      refine e_getR rfl hA.1 hA.2.2.2.1.2 ?_
      refine e_iload rfl rfl ?_
      refine e_ialv (t := k) (n := 6) rfl hA.2.2.2.1.1 rfl (by omega) (by decide) (hV.2 k (by omega)).2.2 ?_
      refine e_iadd rfl ?_
      rw [show (nI (flN v 29 u + oPS v A k)) + (nI (flN v 31 k)) = nI (flN v 29 u + (oPS v A k + flN v 31 k)) from by rw [nI_add, Nat.add_assoc]]
      refine e_istore rfl ?_
      refine e_iinc rfl rfl ?_
      refine e_goto rfl ?_
      refine Eg.pk [0, 1, 2, 3, 4] [4, 3, 0, 1, 2] rfl (by decide) ?_
      rw [nI_1]
      rw [show oPS v A (k + 1) = oPS v A k + flN v 31 k from if_pos hb] at ih
      exact ih
  · refine e_iload rfl rfl ?_
    refine e_aload rfl rfl ?_
    refine e_getIv rfl hA.1 hV.1 ?_
    refine e_cge_t rfl (Int32.le_refl _) ?_
    refine e_aload rfl rfl ?_
    refine e_getR rfl hA.1 hA.2.2.1.2 ?_
    refine e_iload rfl rfl ?_
    refine e_ialv (t := u) (n := 6) rfl hA.2.2.1.1 rfl (by omega) (by decide) (hV.2 u (by omega)).2.1 ?_
    refine e_iload rfl rfl ?_
    refine e_imul rfl ?_
    rw [show (nI (flN v 30 u)) * (nI (flN v 29 u + oPS v A (cn v 12))) = nI (flN v 30 u * (flN v 29 u + oPS v A (cn v 12))) from nI_times _ _]
    refine e_aload rfl rfl ?_
    refine e_getR rfl hA.1 hA.2.2.2.2.2 ?_
    refine e_iload rfl rfl ?_
    refine e_ipush rfl ?_
    refine e_iload rfl rfl ?_
    refine e_ishl rfl ?_
    rw [show 1 <<< ((nI u) &&& 31) = nI (1 <<< u) from nI_shl (F := 1) (by omega)]
    refine e_ior rfl ?_
    rw [show (nI A) ||| (nI (1 <<< u)) = nI (A ||| 1 <<< u) from nI_or _ _]
    refine e_ialv (t := A ||| 1 <<< u) (n := 64) rfl hA.2.2.2.2.1 rfl hlt (by decide) ht ?_
    refine e_iadd rfl ?_
    rw [show (nI (flN v 30 u * (flN v 29 u + oPS v A (cn v 12)))) + (nI (oLA v (A ||| 1 <<< u))) = nI (oD v A u) from nI_add _ _]
    exact Eg.ret rfl (by decide) rfl ⟨rfl, rfl⟩
theorem cs_weigh (hA : FlAt sh R f) (hV : FlV I f v) (hN : cn v 12 ≤ 6) (hF : WfF v) : Ec X 2 32 [.ref f] (sh, I, L, R) (fun r h' => r = none ∧ ∃ J : Nat → Nat → Int32, h' = (sh, J, L, R) ∧ (∀ B, B < 1 <<< cn v 12 → J (f + 4) B = nI (oLA v B)) ∧ ∀ i k, i ≠ f + 4 → J i k = I i k) := by
  have l64x := sixty hN
  obtain ⟨a, ha⟩ : ∃ a, 1 <<< cn v 12 = a + 1 := ⟨1 <<< cn v 12 - 1, by have := Nat.two_pow_pos (cn v 12); rw [Nat.one_shiftLeft]; omega⟩
  have main : ∀ j, j ≤ a → ∀ J : Nat → Nat → Int32, (∀ B, j ≤ B → B ≤ a → J (f + 4) B = nI (oLA v B)) → (∀ i k, i ≠ f + 4 → J i k = I i k) → Eg X xTc 1 32 20 [(0, .ref f), (1, .int (nI a)), (2, .int (nI j - 1))] [] (sh, J, L, R) (fun r h' => r = none ∧ ∃ J : Nat → Nat → Int32, h' = (sh, J, L, R) ∧ (∀ B, B < 1 <<< cn v 12 → J (f + 4) B = nI (oLA v B)) ∧ ∀ i k, i ≠ f + 4 → J i k = I i k) := by
    intro j
    induction j with
    | zero =>
      intro _ J k1x k2x
      rw [show nI 0 - (1 : Int32) = -1 from rfl]
      refine e_iload rfl rfl ?_
      refine e_iflt_t rfl (by decide) ?_
      exact Eg.ret rfl (by decide) rfl ⟨rfl, J, rfl, fun B hB => k1x B (Nat.zero_le _) (by omega), k2x⟩
    | succ j ih =>
      intro hj J k1x k2x
      rw [show nI (j + 1) - (1 : Int32) = nI j from nI_sub (a := j + 1) (b := 1) (by omega)]
      have hj2x : j < 1 <<< cn v 12 := by omega
      have jb : bitN j < cn v 12 := by have q := set_n hN hj2x; have : bitN j ≠ cn v 12 := fun e => by have := q.2.mp e; omega
                                       omega
      refine e_iload rfl rfl ?_
      refine e_iflt_f rfl (nI_pos (by omega)) ?_
      refine e_aload rfl rfl ?_
      refine e_getR rfl hA.1 hA.2.2.2.2.2 ?_
      refine e_iload rfl rfl ?_
      refine e_ipush rfl ?_
      refine e_iasJ (t := j) (n := 64) rfl hA.2.2.2.2.1 rfl (by omega) (by decide) (fun J21x g21x f21x => ?_)
      refine e_ipush rfl ?_
      refine e_istore rfl ?_
      refine Eg.pk [0, 1, 2, 3] [3, 0, 1, 2] rfl (by decide) ?_
      refine up_ind (p := fun k => ∀ K : Nat → Nat → Int32, K (f + 4) j = nI (oMn j (oD v j) k) → (∀ i q, i ≠ f + 4 ∨ q ≠ j → K i q = J i q) → Eg X xTc 1 32 34 [(0, .ref f), (1, .int (nI a)), (2, .int (nI j)), (3, .int (nI k))] [] (sh, K, L, R) (fun r h' => r = none ∧ ∃ J : Nat → Nat → Int32, h' = (sh, J, L, R) ∧ (∀ B, B < 1 <<< cn v 12 → J (f + 4) B = nI (oLA v B)) ∧ ∀ i k, i ≠ f + 4 → J i k = I i k)) (n := cn v 12) (j := 0) (fun k hk ik K m1x m2x => ?_) (fun K m1x m2x => ?_) (Nat.zero_le _) J21x g21x (fun i q r => f21x i q r)
      · have fv : FlV K f v := hV.fr (fun i q r => (m2x i q (Or.inl r)).trans (k2x i q r))
        refine e_iload rfl rfl ?_
        refine e_aload rfl rfl ?_
        refine e_getIv rfl hA.1 fv.1 ?_
        refine e_cge_f rfl (nI_ge hk (by omega)) ?_
        refine e_iload rfl rfl ?_
        refine e_iload rfl rfl ?_
        refine e_ishr rfl ?_
        refine e_ipush rfl ?_
        refine e_iand rfl ?_
        rw [show ((nI j) >>> ((nI k) &&& 31)) &&& (1 : Int32) = if j.testBit k = true then 1 else 0 from nI_bit (by omega) (by omega)]
        refine e_ifne_b rfl (fun b47x => ?_) (fun b47x => ?_)
        · have hb : j.testBit k = true := Decidable.byContradiction (fun q => b47x (if_neg q))
          refine e_iinc rfl rfl ?_
          refine e_goto rfl ?_
          refine Eg.pk [0, 1, 2, 3] [3, 0, 1, 2] rfl (by decide) ?_
          rw [nI_1]
          exact ik K (m1x.trans (congrArg nI (show _ = oMn j (oD v j) (k + 1) from (if_pos hb).symm))) m2x
        · have hb : ¬ j.testBit k = true := fun q => by rw [if_pos q] at b47x; exact absurd b47x (by decide)
          have jg := set_gt (A := j) (w := k) (by omega) (by omega) hb
          have ji := set_ins hN hj2x hk
          have tb : K (f + 4) (j ||| 1 <<< k) = nI (oLA v (j ||| 1 <<< k)) := (m2x _ _ (Or.inr (by omega))).trans (k1x _ (by omega) (by omega))
          have ob := oD_b hF hN hj2x hk
          have mb := oMn_b (A := j) (g := oD v j) (n := k)
          refine e_aload rfl rfl ?_
          refine e_getR rfl hA.1 hA.2.2.2.2.2 ?_
          refine e_iload rfl rfl ?_
          refine e_aload rfl rfl ?_
          refine e_getR rfl hA.1 hA.2.2.2.2.2 ?_
          refine e_iload rfl rfl ?_
          refine e_ialv (t := j) (n := 64) rfl hA.2.2.2.2.1 rfl (by omega) (by decide) m1x ?_
          refine e_aload rfl rfl ?_
          refine e_iload rfl rfl ?_
          refine e_iload rfl rfl ?_
          refine Eg.p3 rfl (by decide) (by decide) rfl (Nat.le_of_ble_eq_true rfl) (xrcv_of rfl hA.1 rfl) ((cs_duesWith hA fv hN hF (A := j) (u := k) hj2x hk tb).mono (by decide)) ?_
          refine e_min rfl (Nat.le_of_ble_eq_true rfl) ?_
          rw [show (if nI (oD v j k) < nI (oMn j (oD v j) k) then nI (oD v j k) else nI (oMn j (oD v j) k)) = nI (if oD v j k < oMn j (oD v j) k then oD v j k else oMn j (oD v j) k) from nI_mn (by omega) (by omega)]
          refine e_iasJ (t := j) (n := 64) rfl hA.2.2.2.2.1 rfl (by omega) (by decide) (fun J31x g31x f31x => ?_)
          refine e_iinc rfl rfl ?_
          refine e_goto rfl ?_
          refine Eg.pk [0, 1, 2, 3] [3, 0, 1, 2] rfl (by decide) ?_
          rw [nI_1]
          exact ik J31x (g31x.trans (congrArg nI (show _ = oMn j (oD v j) (k + 1) from (if_neg hb).symm))) (fun i q r => (f31x i q r).trans (m2x i q r))
      · have fv : FlV K f v := hV.fr (fun i q r => (m2x i q (Or.inl r)).trans (k2x i q r))
        refine e_iload rfl rfl ?_
        refine e_aload rfl rfl ?_
        refine e_getIv rfl hA.1 fv.1 ?_
        refine e_cge_t rfl (Int32.le_refl _) ?_
        refine e_iinc rfl rfl ?_
        refine e_goto rfl ?_
        refine Eg.pk [0, 1, 2] [2, 0, 1, 3] rfl (by decide) ?_
        rw [show nI j + -1 = nI j - (1 : Int32) from by grind]
        refine ih (by omega) K (fun B b1x b2x => ?_) (fun i q r => (m2x i q (Or.inl r)).trans (k2x i q r))
        by_cases e : B = j
        · subst e; rw [oLA_s hN hj2x jb]; exact m1x
        · exact (m2x _ _ (Or.inr e)).trans (k1x B (by omega) b2x)
  refine Ec.of (Nat.le_of_ble_eq_true rfl) ?_
  refine e_ipush rfl ?_
  refine e_aload rfl rfl ?_
  refine e_getIv rfl hA.1 hV.1 ?_
  refine e_ishl rfl ?_
  rw [show 1 <<< ((nI (cn v 12)) &&& 31) = nI (a + 1) from by rw [← ha]; exact nI_shl (F := 1) (by omega)]
  refine e_ipush rfl ?_
  refine e_isub rfl ?_
  rw [show (nI (a + 1)) - (1 : Int32) = nI a from nI_sub (a := a + 1) (b := 1) (by omega)]
  refine e_istore rfl ?_
  refine e_aload rfl rfl ?_
  refine e_getR rfl hA.1 hA.2.2.2.2.2 ?_
  refine e_iload rfl rfl ?_
  refine e_ipush rfl ?_
  refine e_iasJ (t := a) (n := 64) rfl hA.2.2.2.2.1 rfl (by omega) (by decide) (fun J1x g1x f1x => ?_)
  refine e_iload rfl rfl ?_
  refine e_ipush rfl ?_
  refine e_isub rfl ?_
  refine e_istore rfl ?_
  refine Eg.pk [0, 1, 2] [2, 1, 0] rfl (by decide) ?_
  exact main a (Nat.le_refl _) J1x (fun B b1x b2x => by rw [show B = a by omega, g1x, oLA_f hN (by omega) (by omega)]; rfl) (fun i k q => f1x i k (Or.inl q))
theorem cs_nextBehind (hA : FlAt sh R f) (hV : FlV I f v) (hN : cn v 12 ≤ 6) (hF : WfF v) (hT : ∀ B, B < 1 <<< cn v 12 → I (f + 4) B = nI (oLA v B)) {A : Nat} (hA2x : A < 1 <<< cn v 12) (hb2x : bitN A < cn v 12) : Ec X 2 35 [.ref f, .int (nI A)] (sh, I, L, R) (fun r h' => r = some (.int (nI (oNb v A))) ∧ h' = (sh, I, L, R)) := by
  have l64x := sixty hN
  have al := oLA_b hF hN hA2x
  refine Ec.of (Nat.le_of_ble_eq_true rfl) ?_
  refine e_ipush rfl ?_
  refine e_istore rfl ?_
  refine Eg.pk [0, 1, 2] [2, 0, 1] rfl (by decide) ?_
  refine up_ind (p := fun k => (∀ i, i < k → ¬ (fun w => !A.testBit w && oD v A w == oLA v A) i = true) → Eg X xTc 1 35 2 [(0, .ref f), (1, .int (nI A)), (2, .int (nI k))] [] (sh, I, L, R) (fun r h' => r = some (.int (nI (oNb v A))) ∧ h' = (sh, I, L, R))) (n := cn v 12) (j := 0) (fun k hk ih a1x => ?_) (fun a1x => ?_) (Nat.zero_le _) (fun i r => absurd r (by omega))
  · have ob := oD_b hF hN hA2x hk
    refine e_iload rfl rfl ?_
    refine e_aload rfl rfl ?_
    refine e_getIv rfl hA.1 hV.1 ?_
    refine e_cge_f rfl (nI_ge hk (by omega)) ?_
    refine e_iload rfl rfl ?_
    refine e_iload rfl rfl ?_
    refine e_ishr rfl ?_
    refine e_ipush rfl ?_
    refine e_iand rfl ?_
    rw [show ((nI A) >>> ((nI k) &&& 31)) &&& (1 : Int32) = if A.testBit k = true then 1 else 0 from nI_bit (by omega) (by omega)]
    refine e_ifne_b rfl (fun b15x => ?_) (fun b15x => ?_)
    · have hb : A.testBit k = true := Decidable.byContradiction (fun q => b15x (if_neg q))
      refine e_iinc rfl rfl ?_
      refine e_goto rfl ?_
      refine Eg.pk [0, 1, 2] [2, 0, 1] rfl (by decide) ?_
      rw [nI_1]
      refine ih (fun i r => ?_)
      rcases (show i < k ∨ i = k by omega) with e | e
      · exact a1x i e
      · rw [e]; exact fun q => (oNb_p.mp q).1 hb
    · have hb : ¬ A.testBit k = true := fun q => by rw [if_pos q] at b15x; exact absurd b15x (by decide)
      refine e_aload rfl rfl ?_
      refine e_iload rfl rfl ?_
      refine e_iload rfl rfl ?_
      refine Eg.p3 rfl (by decide) (by decide) rfl (Nat.le_of_ble_eq_true rfl) (xrcv_of rfl hA.1 rfl) ((cs_duesWith hA hV hN hF (A := A) (u := k) hA2x hk (hT _ (set_ins hN hA2x hk))).mono (by decide)) ?_
      refine e_aload rfl rfl ?_
      refine e_getR rfl hA.1 hA.2.2.2.2.2 ?_
      refine e_iload rfl rfl ?_
      refine e_ialv (t := A) (n := 64) rfl hA.2.2.2.2.1 rfl (by omega) (by decide) (hT A hA2x) ?_
      refine e_cne_b rfl (fun b30x => ?_) (fun b30x => ?_)
      · refine e_iinc rfl rfl ?_
        refine e_goto rfl ?_
        refine Eg.pk [0, 1, 2] [2, 0, 1] rfl (by decide) ?_
        rw [nI_1]
        refine ih (fun i r => ?_)
        rcases (show i < k ∨ i = k by omega) with e | e
        · exact a1x i e
        · rw [e]; exact fun q => b30x (congrArg nI (oNb_p.mp q).2)
      · refine e_iload rfl rfl ?_
        exact Eg.ret rfl (by decide) rfl ⟨congrArg (fun q => some (Value.int (nI q))) (fsN_eq hk a1x (oNb_p.mpr ⟨hb, (nI_ij (by omega) (by omega)).mp b30x⟩)).symm, rfl⟩
  · exact absurd ((oNb_p (v := v)).mpr ⟨(oNb_ok hF hN hA2x hb2x).2.1, (oNb_ok hF hN hA2x hb2x).2.2.1⟩) (a1x _ (oNb_ok hF hN hA2x hb2x).1)
def oLs (v : Nat → Nat → Int32) : Nat → Int32
  | 0 => -1
  | i + 1 => nI (oR v i)
theorem cs_sailsAt (hA : FlAt sh R f) (hV : FlV I f v) (hN : cn v 12 ≤ 6) (hF : WfF v) (hT : ∀ B, B < 1 <<< cn v 12 → I (f + 4) B = nI (oLA v B)) {p : Nat} (hp : p < cn v 12) : Ec X 3 34 [.ref f, .int (nI (p + 1))] (sh, I, L, R) (fun r h' => r = some (.int (nI (oR v p))) ∧ h' = (sh, I, L, R)) := by
  refine Ec.of (Nat.le_of_ble_eq_true rfl) ?_
  refine e_ipush rfl ?_
  refine e_istore rfl ?_
  refine e_ipush rfl ?_
  refine e_istore rfl ?_
  refine e_ipush rfl ?_
  refine e_istore rfl ?_
  refine Eg.pk [0, 1, 2, 3, 4] [4, 3, 2, 0, 1] rfl (by decide) ?_
  refine up_ind (p := fun k => Eg X xTc 2 34 7 [(0, .ref f), (1, .int (nI (p + 1))), (2, .int (nI (oG v k))), (3, .int (oLs v k)), (4, .int (nI k))] [] (sh, I, L, R) (fun r h' => r = some (.int (nI (oR v p))) ∧ h' = (sh, I, L, R))) (n := p + 1) (j := 0) (fun k hk ih => ?_) ?_ (Nat.zero_le _)
  · have gk := oG_ok hF hN k (by omega)
    have rk : oNb v (oG v k) < cn v 12 := (oR_ok hF hN (k := k) (by omega)).1
    refine e_iload rfl rfl ?_
    refine e_iload rfl rfl ?_
    refine e_cge_f rfl (nI_ge hk (by omega)) ?_
    refine e_iload rfl rfl ?_
    refine e_aload rfl rfl ?_
    refine e_getIv rfl hA.1 hV.1 ?_
    refine e_cge_f rfl (nI_ge (b := cn v 12) (by omega) (by omega)) ?_
    refine e_aload rfl rfl ?_
    refine e_iload rfl rfl ?_
    refine Eg.p2 rfl (by decide) (by decide) rfl (Nat.le_of_ble_eq_true rfl) (xrcv_of rfl hA.1 rfl) ((cs_nextBehind hA hV hN hF hT (A := oG v k) gk.1 (by omega)).mono (by decide)) ?_
    refine e_istore rfl ?_
    refine e_iload rfl rfl ?_
    refine e_ipush rfl ?_
    refine e_iload rfl rfl ?_
    refine e_ishl rfl ?_
    rw [show 1 <<< ((nI (oNb v (oG v k))) &&& 31) = nI (1 <<< oNb v (oG v k)) from nI_shl (F := 1) (by omega)]
    refine e_ior rfl ?_
    rw [show (nI (oG v k)) ||| (nI (1 <<< oNb v (oG v k))) = nI (oG v k ||| 1 <<< oNb v (oG v k)) from nI_or _ _]
    refine e_istore rfl ?_
    refine e_iinc rfl rfl ?_
    refine e_goto rfl ?_
    refine Eg.pk [0, 1, 2, 3, 4] [4, 2, 3, 0, 1] rfl (by decide) ?_
    rw [nI_1]
    exact ih
  · refine e_iload rfl rfl ?_
    refine e_iload rfl rfl ?_
    refine e_cge_t rfl (Int32.le_refl _) ?_
    refine e_iload rfl rfl ?_
    exact Eg.ret rfl (by decide) rfl ⟨rfl, rfl⟩
theorem qOrd_n {kw : Int32} (h : cn v 0 = 0 ∨ kw < 0 ∨ 6 < kw) : qOrd v kw = -1 := if_pos h
theorem qOrd_2 {kw : Int32} (h0x : ¬ cn v 0 = 0) (h : ¬ (kw < 0 ∨ 6 < kw)) (h2x : ¬ kw ≤ nI (cn v 12)) : qOrd v kw = -2 := by
  unfold qOrd
  rw [if_neg (by rintro (q | q); exact h0x q; exact h q), if_pos (Int32.not_le.mp h2x)]
theorem qOrd_a {kw : Int32} (h0x : ¬ cn v 0 = 0) (h : ¬ (kw < 0 ∨ 6 < kw)) (h2x : kw ≤ nI (cn v 12)) : qOrd v kw = aOrd v kw := by
  unfold qOrd
  rw [if_neg (by rintro (q | q); exact h0x q; exact h q), if_neg (fun q => absurd h2x (Int32.not_le.mpr q))]
theorem ord_k {kw : Int32} (h : ¬ (kw < 0 ∨ 6 < kw)) (h2x : kw ≤ nI (cn v 12)) (hN : cn v 12 ≤ 6) (h0x : ¬ kw = 0) : ∃ p, p < cn v 12 ∧ kw = nI (p + 1) ∧ aOrd v kw = nI (oR v p) := by
  obtain ⟨t, lt, rfl⟩ := nI_of (x := kw) (fun q => h (Or.inl q))
  have h3x := (nI_lei lt (by omega)).mp h2x
  have t0x : t ≠ 0 := fun e => h0x (by rw [e]; rfl)
  refine ⟨t - 1, by omega, by rw [show t - 1 + 1 = t by omega], ?_⟩
  unfold aOrd
  rw [if_neg h0x, nI_clamp (by omega)]
theorem WorV.fl (hWV : WorV I w v) (hF : WfF v) : FlV I (w + 7) v :=
  ⟨hWV.2.2.2.2.1, fun k hk => ⟨(hWV.2.2.2.2.2.1 k hk).1.trans (hF k hk 29 (by decide)).1, (hWV.2.2.2.2.2.1 k hk).2.1.trans (hF k hk 30 (by decide)).1, (hWV.2.2.2.2.2.1 k hk).2.2.trans (hF k hk 31 (by decide)).1⟩⟩
theorem WorldAt.fl (h : WorldAt sh R w) : FlAt sh R (w + 7) := ⟨h.2.2.2.2.2.2.2.2.1.1, h.2.2.2.2.2.2.2.2.2.1, h.2.2.2.2.2.2.2.2.2.2.1, h.2.2.2.2.2.2.2.2.2.2.2.1, h.2.2.2.2.2.2.2.2.2.2.2.2⟩
theorem cf_order (hq : CQ sh I R w m s v) (hWA : WorldAt sh R w) (hWV : WorV I w v) (hF : WfF v) {kw : Int32} : Ec X 4 167 [.ref 0, .int kw] (sh, I, L, R) (fun r h' => r = some (.int (qOrd v kw)) ∧ ∃ J : Nat → Nat → Int32, h' = (sh, J, L, R) ∧ ∀ i k, i ≠ w + 11 → J i k = I i k) := by
  obtain ⟨h0x, r7x, hWd, rm, hM, hms, hS, hV, hU, hw, hW⟩ := hq
  have hN : cn v 12 ≤ 6 := by have := hw.1.2; omega
  have hA := hWA.fl
  have fV := hWV.fl hF
  have r10x : R w 10 = some (w + 7) := hWA.2.2.2.2.2.2.2.2.1.2
  refine Ec.of (Nat.le_of_ble_eq_true rfl) ?_
  refine e_aload rfl rfl ?_
  refine e_getR rfl h0x r7x ?_
  refine e_getR rfl hWd rm ?_
  refine e_getR rfl hM.1 hms ?_
  refine Eg.p1 rfl (by decide) (by decide) rfl (Nat.le_of_ble_eq_true rfl) (xrcv_of rfl hS.1 rfl) ((cs_isThereV hS hV hw).mono (by decide)) ?_
  refine e_ifeq_b rfl (fun b13x => ?_) (fun b13x => ?_)
  · replace b13x := yn_0.mp b13x
    refine e_ipush rfl ?_
    exact Eg.ret rfl (by decide) rfl ⟨congrArg (fun q => some (Value.int q)) (qOrd_n (Or.inl (Decidable.not_not.mp b13x))).symm, I, rfl, fun _ _ _ => rfl⟩
  · replace b13x := yn_n0.mp b13x
    refine e_iload rfl rfl ?_
    refine e_ipush rfl ?_
    refine e_ipush rfl ?_
    refine Eg.p3 rfl (by decide) (by decide) rfl (Nat.le_of_ble_eq_true rfl) (xrcv_ofs (Or.inl rfl)) (cs_withinY.mono (by decide)) ?_
    refine e_ifne_b rfl (fun b23x => ?_) (fun b23x => ?_)
    · replace b23x := yn_n0.mp b23x
      refine e_iload rfl rfl ?_
      refine e_aload rfl rfl ?_
      refine e_getR rfl h0x r7x ?_
      refine e_getR rfl hWd r10x ?_
      refine e_getIv rfl hA.1 fV.1 ?_
      refine e_cle_b rfl (fun b39x => ?_) (fun b39x => ?_)
      · refine e_aload rfl rfl ?_
        refine e_getR rfl h0x r7x ?_
        refine e_getR rfl hWd r10x ?_
        refine Eg.c1 rfl (by decide) (by decide) rfl (Nat.le_of_ble_eq_true rfl) (xrcv_of rfl hA.1 rfl) ((cs_weigh hA fV hN hF).mono (by decide)) (fun r1x h1x hq => ?_)
        obtain ⟨rfl, J, rfl, t1x, t2x⟩ := hq
        have fJ : FlV J (w + 7) v := fV.fr t2x
        refine e_iload rfl rfl ?_
        refine e_ifne_b rfl (fun b56x => ?_) (fun b56x => ?_)
        · obtain ⟨p, hp, ek, ep⟩ := ord_k b23x b39x hN b56x
          refine e_aload rfl rfl ?_
          refine e_getR rfl h0x r7x ?_
          refine e_getR rfl hWd r10x ?_
          refine e_iload rfl rfl ?_
          subst ek
          refine Eg.p2 rfl (by decide) (by decide) rfl (Nat.le_of_ble_eq_true rfl) (xrcv_of rfl hA.1 rfl) ((cs_sailsAt hA fJ hN hF t1x (p := p) hp).mono (by decide)) ?_
          exact Eg.ret rfl (by decide) rfl ⟨congrArg (fun q => some (Value.int q)) ((qOrd_a b13x b23x b39x).trans ep).symm, J, rfl, fun i k q => t2x i k q⟩
        · refine e_aload rfl rfl ?_
          refine e_getR rfl h0x r7x ?_
          refine e_getR rfl hWd r10x ?_
          refine e_getR rfl hA.1 hA.2.2.2.2.2 ?_
          refine e_ipush rfl ?_
          refine e_ialv (t := 0) (n := 64) rfl hA.2.2.2.2.1 rfl (by decide) (by decide) (t1x 0 (by rw [Nat.one_shiftLeft]; exact Nat.two_pow_pos _)) ?_
          refine e_goto rfl ?_
          exact Eg.ret rfl (by decide) rfl ⟨congrArg (fun q => some (Value.int q)) ((qOrd_a b13x b23x b39x).trans (if_pos b56x)).symm, J, rfl, fun i k q => t2x i k q⟩
      · refine e_ipush rfl ?_
        exact Eg.ret rfl (by decide) rfl ⟨congrArg (fun q => some (Value.int q)) (qOrd_2 b13x b23x b39x).symm, I, rfl, fun _ _ _ => rfl⟩
    · replace b23x := yn_0.mp b23x
      refine e_ipush rfl ?_
      exact Eg.ret rfl (by decide) rfl ⟨congrArg (fun q => some (Value.int q)) (qOrd_n (Or.inr (Decidable.not_not.mp b23x))).symm, I, rfl, fun _ _ _ => rfl⟩
end OC
