/-! A RULE read, the one side: all its clauses -/
section CR8x
variable {X : xX} {h : xH} {sh : List (Nat × Nat)} {I : Nat → Nat → Int32} {L : Nat → Nat → Int64} {R : Nat → Nat → Option Nat} {B : Nat → Nat} {n E ru : Nat} {st : rS}
variable {cl : List (Nat × Nat × Nat)}
/-- a rule in the memory: code and clauses -/
def RuV (I : Nat → Nat → Int32) (ru : Nat) (cd : List (Nat × Nat)) (cl : List (Nat × Nat × Nat)) : Prop := I ru 1 = nI cd.length ∧ I ru 2 = nI cl.length ∧ (∀ k e, cd[k]? = some e → I (ru + 1) k = pcE e) ∧ Ccl I ru cl
theorem Ccl.fr {J : Nat → Nat → Int32} (h : Ccl I ru cl) (e : ∀ i k, i = ru + 2 ∨ i = ru + 3 ∨ i = ru + 4 → J i k = I i k) : Ccl J ru cl := by
  intro j c q
  rw [e _ _ (Or.inl rfl), e _ _ (Or.inr (Or.inl rfl)), e _ _ (Or.inr (Or.inr rfl))]; exact h j c q
theorem RuV.fr {J : Nat → Nat → Int32} {cd : List (Nat × Nat)} (h : RuV I ru cd cl) (e : ∀ i k, ru ≤ i → i ≤ ru + 4 → J i k = I i k) : RuV J ru cd cl :=
  ⟨(e _ _ (by omega) (by omega)).trans h.1, (e _ _ (by omega) (by omega)).trans h.2.1, fun k x q => (e _ _ (by omega) (by omega)).trans (h.2.2.1 k x q), h.2.2.2.fr (fun i k q => e i k (by omega) (by omega))⟩
theorem QFc.rf : QFc I I ru := fun _ _ _ _ _ => rfl
theorem QFc.tr {J K : Nat → Nat → Int32} (h : QFc I J ru) (g : QFc J K ru) : QFc I K ru := fun i k a b c => (g i k a b c).trans (h i k a b c)
theorem QFc.of {J : Nat → Nat → Int32} (h : RdF I J) : QFc I J ru := fun i k a _ _ => h i k a
theorem goF_w {p : Nat} {F : Int32} (h : ¬ F = 0) : goF B n p F = F := by unfold goF; rw [if_neg (fun q => h q.1)]
theorem goB_w {p : Nat} {F : Int32} (h : ¬ F = 0) : ¬ goB B n p F = true := by unfold goB; intro q; exact h (of_decide_eq_true q).1
theorem goP_n {p : Nat} {F : Int32} (h : ¬ goB B n p F = true) : goP B n p F = p := by unfold goP; rw [if_neg h]
theorem goP_t {p : Nat} {F : Int32} (h : goB B n p F = true) : goP B n p F = nxt B n p := by unfold goP; rw [if_pos h]
theorem goF_t {p : Nat} (h : goB B n p 0 = true) : goF B n p 0 = 0 := by
  unfold goB at h; have := of_decide_eq_true h
  unfold goF; rw [if_neg (fun q => q.2.2 this.2.2)]
theorem rCl_12 {k : Nat} (hn : st.1 ≤ n) (h4x : n ≤ 400) (h : (rCl B n k st).1 = 0) : k < 12 := by
  apply Decidable.byContradiction; intro q
  unfold rCl at h
  split at h
  · exact absurd h (fl_ne (by omega))
  · rw [if_pos (by omega)] at h; exact absurd h (fl_ne (by omega))
theorem cs_ruleLoop (hT : TpAt sh R) (hA : RRAt sh R ru) (hU : RuAt sh R ru) : ∀ (k : Nat) (st : rS) (cl : List (Nat × Nat × Nat)) (I : Nat → Nat → Int32), k + cl.length = 13 → cl.length ≤ 12 → Cst I B n E ru st → Ccl I ru cl → I ru 2 = nI cl.length → Eg X xTc 26 71 28 [(0, .ref 7), (2, .int 1), (3, .int (nI cl.length))] [] (sh, I, L, R) (fun r h' => r = some (.int (rRL B n k st cl).1) ∧ ∃ J : Nat → Nat → Int32, h' = (sh, J, L, R) ∧ TpB J B n ∧ QFc I J ru ∧ ((rRL B n k st cl).1 = 0 → RuV J ru (rRL B n k st cl).2.1.2.2 (rRL B n k st cl).2.2)) := by
  have h9x := hA.2.2.2
  intro k
  induction k with
  | zero => intro st cl I hk hl; omega
  | succ k ih =>
    intro st cl I hk hl hr hc h2x
    obtain ⟨hp, hn⟩ := hr.le
    refine e_iload rfl rfl ?_
    refine e_ifeq_f rfl (by decide) ?_
    refine e_iload rfl rfl ?_
    refine e_ipush rfl ?_
    refine e_cgt_f rfl (by intro q; have := (nI_lti (a := 12) (by decide) (by omega)).mp q; omega) ?_
    refine e_aload rfl rfl ?_
    refine e_iload rfl rfl ?_
    refine Eg.c2 rfl (by decide) (by decide) rfl (Nat.le_of_ble_eq_true rfl) (xrcv_of rfl hA.1 rfl) ((cs_clause hT hA hU hr hc hl).mono (by decide)) (fun r1x h1x hq => ?_)
    obtain ⟨rfl, K1x, rfl, q1x, hz⟩ := hq
    rcases hz with ⟨e1x, c1x, d1x, d2x⟩ | v1x
    · have l12x := rCl_12 hp hn e1x
      refine e_aload rfl rfl ?_
      refine e_getR rfl hA.1 hA.2.1 ?_
      refine Eg.c1 rfl (by decide) (by decide) rfl (Nat.le_of_ble_eq_true rfl) (xrcv_of rfl hT.1 rfl) ((cs_goesOn hT c1x.1).mono (by decide)) (fun r1x h1x hq => ?_)
      obtain ⟨rfl, G, rfl, g1x, g2x⟩ := hq
      refine e_istore rfl ?_
      refine e_iinc rfl rfl ?_
      refine e_goto rfl ?_
      by_cases hg : goB B n ((rCl B n cl.length st).2.1.1) 0 = true
      · rw [yn_t hg]
        rw [goP_t hg, goF_t hg] at g1x
        refine Eg.pk [0, 2, 3] [3, 2, 0] rfl (by decide) ?_
        rw [nI_1]
        have eD : rRL B n (k + 1) st cl = rRL B n k (goN B n (rCl B n cl.length st).2.1) (cl ++ [clE B n cl.length st]) := by rw [rRL, if_neg (fun q => q e1x), if_pos hg]
        have el : (cl ++ [clE B n cl.length st]).length = cl.length + 1 := by simp
        rw [eD, ← el]
        refine (ih (goN B n (rCl B n cl.length st).2.1) (cl ++ [clE B n cl.length st]) G (by rw [el]; omega) (by rw [el]; omega) (c1x.go h9x g1x g2x) (d1x.fr (fun i k h => g2x i k (by omega))) ((g2x ru 2 (by omega)).trans (by rw [el]; exact d2x))).imp ?_
        rintro r h' ⟨rfl, T, rfl, t1x, t2x, t3x⟩
        exact ⟨rfl, T, rfl, t1x, (q1x.tr (QFc.of g2x)).tr t2x, t3x⟩
      · rw [yn_f hg]
        rw [goP_n hg] at g1x
        refine e_iload rfl rfl ?_
        refine e_ifeq_t rfl rfl ?_
        refine e_aload rfl rfl ?_
        refine e_getR rfl hA.1 hA.2.1 ?_
        refine e_getIv rfl hT.1 g1x.2.2.1 ?_
        have eD : rRL B n (k + 1) st cl = (goF B n (rCl B n cl.length st).2.1.1 0, (rCl B n cl.length st).2.1, cl ++ [clE B n cl.length st]) := by rw [rRL, if_neg (fun q => q e1x), if_neg hg]
        refine Eg.ret rfl (by decide) rfl ⟨by rw [eD], G, rfl, g1x.1, q1x.tr (QFc.of g2x), fun _ => ?_⟩
        rw [eD]
        exact ⟨(g2x ru 1 (by omega)).trans c1x.2.2.2.1, (g2x ru 2 (by omega)).trans (d2x.trans (by simp)), fun k e q => (g2x (ru + 1) k (by omega)).trans (c1x.2.2.2.2.2 k e q), d1x.fr (fun i k h => g2x i k (by omega))⟩
    · obtain ⟨z1x, p1x, -, -, r1x, -⟩ := id v1x
      refine e_aload rfl rfl ?_
      refine e_getR rfl hA.1 hA.2.1 ?_
      refine Eg.c1 rfl (by decide) (by decide) rfl (Nat.le_of_ble_eq_true rfl) (xrcv_of rfl hT.1 rfl) ((cs_goesOn hT r1x).mono (by decide)) (fun r1x h1x hq => ?_)
      obtain ⟨rfl, G, rfl, g1x, g2x⟩ := hq
      rw [yn_f (goB_w z1x)]
      rw [goF_w z1x] at g1x
      refine e_istore rfl ?_
      refine e_iinc rfl rfl ?_
      refine e_goto rfl ?_
      refine e_iload rfl rfl ?_
      refine e_ifeq_t rfl rfl ?_
      refine e_aload rfl rfl ?_
      refine e_getR rfl hA.1 hA.2.1 ?_
      refine e_getIv rfl hT.1 g1x.2.2.1 ?_
      have eD : (rRL B n (k + 1) st cl).1 = (rCl B n cl.length st).1 := by rw [rRL, if_pos z1x]
      exact Eg.ret rfl (by decide) rfl ⟨by rw [eD], G, rfl, g1x.1, q1x.tr (QFc.of g2x), fun e => absurd (eD ▸ e) z1x⟩
theorem cs_rclear (hU : RuAt sh R ru) : Ec X 1 66 [.ref ru] (sh, I, L, R) (fun r h' => r = none ∧ ∃ J : Nat → Nat → Int32, h' = (sh, J, L, R) ∧ J ru 1 = nI 0 ∧ J ru 2 = nI 0 ∧ ∀ i k, i ≠ ru → J i k = I i k) := by
  refine Ec.of (Nat.le_of_ble_eq_true rfl) ?_
  refine e_aload rfl rfl ?_
  refine e_ipush rfl ?_
  refine e_putIJ rfl hU.1 (fun J1x g1x f1x => ?_)
  refine e_aload rfl rfl ?_
  refine e_ipush rfl ?_
  refine e_putIJ rfl hU.1 (fun J2x g2x f2x => ?_)
  exact Eg.ret rfl (by decide) rfl ⟨rfl, J2x, rfl, (f2x ru 1 (by omega)).trans g1x, g2x, fun i k h => (f2x i k (by omega)).trans (f1x i k (by omega))⟩
theorem RuAt.frR {R' : Nat → Nat → Option Nat} (h : RuAt sh R ru) (e : ∀ k, R' ru k = R ru k) : RuAt sh R' ru := ⟨h.1, fun j q hq => ⟨(h.2 j q hq).1, (e _).trans (h.2 j q hq).2⟩⟩
theorem cs_rread (hT : TpAt sh R) (hB : TpB I B n) (h7x : sh[7]? = some (6, 3)) (r70x : R 7 0 = some 1) (hU : RuAt sh R ru) (h9x : 9 ≤ ru) : Ec X 27 71 [.ref 7, .ref ru] (sh, I, L, R) (fun r h' => r = some (.int (rRule B n).1) ∧ ∃ J : Nat → Nat → Int32, h' = (sh, J, L, xu R 7 1 (some ru)) ∧ TpB J B n ∧ ((rRule B n).1 = 0 → RuV J ru (rRule B n).2.1.2.2 (rRule B n).2.2) ∧ ∀ i k, i ≠ 3 → i ≠ 4 → i ≠ 5 → (i ≠ 1 ∨ (k ≠ 2 ∧ k ≠ 6 ∧ k ≠ 7)) → (i < ru ∨ ru + 4 < i) → (i ≠ 7 ∨ k ≠ 2) → J i k = I i k) := by
  refine Ec.of (Nat.le_of_ble_eq_true rfl) ?_
  refine e_aload rfl rfl ?_
  refine e_aload rfl rfl ?_
  refine e_putR rfl h7x ?_
  have hT1x : TpAt sh (xu R 7 1 (some ru)) := by
    obtain ⟨t1x, t2x, t3x, t4x, t5x, t6x, t7x, t8x, t9x⟩ := hT
    exact ⟨t1x, t2x, t3x, t4x, t5x, (xu_o (by decide)).trans t6x, (xu_o (by decide)).trans t7x, (xu_o (by decide)).trans t8x, (xu_o (by decide)).trans t9x⟩
  have hA : RRAt sh (xu R 7 1 (some ru)) ru := ⟨h7x, (xu_o (by decide)).trans r70x, xu_at, h9x⟩
  have hU1x : RuAt sh (xu R 7 1 (some ru)) ru := hU.frR (fun k => xu_o (by omega))
  refine e_aload rfl rfl ?_
  refine e_getR rfl hA.1 hA.2.2.1 ?_
  refine Eg.c1 rfl (by decide) (by decide) rfl (Nat.le_of_ble_eq_true rfl) (xrcv_of rfl hU1x.1 rfl) ((cs_rclear hU1x).mono (by decide)) (fun r1x h1x hq => ?_)
  obtain ⟨rfl, J, rfl, a1x, a2x, a3x⟩ := hq
  refine e_aload rfl rfl ?_
  refine e_ipush rfl ?_
  refine e_putIJ rfl hA.1 (fun J11x g11x f11x => ?_)
  refine e_aload rfl rfl ?_
  refine e_getR rfl hA.1 hA.2.1 ?_
  refine Eg.c1 rfl (by decide) (by decide) rfl (Nat.le_of_ble_eq_true rfl) (xrcv_of rfl hT1x.1 rfl) ((cs_cut hT1x (hB.fr ((f11x 1 1 (by omega)).trans (a3x 1 1 (by omega))) (fun k => (f11x 2 k (by omega)).trans (a3x 2 k (by omega))))).mono (by decide)) (fun r1x h1x hq => ?_)
  obtain ⟨rfl, K, E, rfl, b1x, b2x, b3x, b4x⟩ := hq
  refine e_ipush rfl ?_
  refine e_istore rfl ?_
  refine e_ipush rfl ?_
  refine e_istore rfl ?_
  refine Eg.pk [0, 2, 3] [3, 2, 0, 1] rfl (by decide) ?_
  have tb : TpB K B n := (hB.fr ((f11x 1 1 (by omega)).trans (a3x 1 1 (by omega))) (fun k => (f11x 2 k (by omega)).trans (a3x 2 k (by omega)))).fr (b4x 1 1 (by decide) (by decide) (by decide) (by decide)) (fun k => b4x 2 k (by decide) (by decide) (by decide) (Or.inl (by decide)))
  have rd : Rd K B n E (skp B n 0) 0 := ⟨tb, b1x, b3x, 0, Nat.zero_le _, b2x, rfl⟩
  have k1x : K ru 1 = nI 0 := (b4x ru 1 (by omega) (by omega) (by omega) (by omega)).trans ((f11x ru 1 (by omega)).trans a1x)
  have k2x : K ru 2 = nI 0 := (b4x ru 2 (by omega) (by omega) (by omega) (by omega)).trans ((f11x ru 2 (by omega)).trans a2x)
  have cs : Cst K B n E ru (skp B n 0, 0, []) := ⟨rd, (b4x 7 2 (by decide) (by decide) (by decide) (by decide)).trans g11x, Nat.zero_le _, k1x, Nat.zero_le _, fun k e q => by simp at q⟩
  refine (cs_ruleLoop hT1x hA hU1x 13 (skp B n 0, 0, []) [] K rfl (Nat.zero_le _) cs (fun j c q => by simp at q) k2x).imp ?_
  rintro r h' ⟨rfl, G, rfl, c1x, c2x, c3x⟩
  exact ⟨rfl, G, rfl, c1x, c3x, fun i k q1x q2x q3x q4x q5x q6x => (c2x i k (by omega) q6x q5x).trans ((b4x i k q1x q2x q3x q4x).trans ((f11x i k (by omega)).trans (a3x i k (by omega))))⟩
end CR8x
