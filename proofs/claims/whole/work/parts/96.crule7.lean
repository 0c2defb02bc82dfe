/-! A RULE read, the one side: clauses -/
section CR7x
variable {X : xX} {h : xH} {sh : List (Nat × Nat)} {I : Nat → Nat → Int32} {L : Nat → Nat → Int64} {R : Nat → Nat → Option Nat} {B : Nat → Nat} {n E ru : Nat} {st : rS}
variable {cl : List (Nat × Nat × Nat)}
/-- a clause: the fault, the state behind it, where its test begins -/
def rCl (B : Nat → Nat) (n i : Nat) (st : rS) : Int32 × rS × Nat :=
  if ¬ (wdH B n st.1 = 7 ∨ wdH B n st.1 = 9) then (fl 0 st.1 0, st, 0)
  else if 12 ≤ i then (fl 0 st.1 4, st, 0)
  else if wdH B n st.1 = 7 then
    (if ¬ (rSum B n (goN B n st)).1 = 0 then ((rSum B n (goN B n st)).1, (rSum B n (goN B n st)).2, 0)
     else if wdH B n (rSum B n (goN B n st)).2.1 = 8 then ((rTest B n 10 (goN B n (rSum B n (goN B n st)).2)).1, (rTest B n 10 (goN B n (rSum B n (goN B n st)).2)).2, (rSum B n (goN B n st)).2.2.2.length)
     else (0, (rSum B n (goN B n st)).2, (rSum B n (goN B n st)).2.2.2.length))
  else ((rTest B n 10 (goN B n st)).1, (rTest B n 10 (goN B n st)).2, st.2.2.length)
def clE (B : Nat → Nat) (n i : Nat) (st : rS) : Nat × Nat × Nat := (st.2.2.length, (rCl B n i st).2.2, (rCl B n i st).2.1.2.2.length)
/-- the clauses, one behind the other -/
def rRL (B : Nat → Nat) (n : Nat) : Nat → rS → List (Nat × Nat × Nat) → Int32 × rS × List (Nat × Nat × Nat)
  | 0, st, cl => (0, st, cl)
  | k + 1, st, cl =>
    if ¬ (rCl B n cl.length st).1 = 0 then ((rCl B n cl.length st).1, st, cl)
    else if goB B n (rCl B n cl.length st).2.1.1 0 = true then rRL B n k (goN B n (rCl B n cl.length st).2.1) (cl ++ [clE B n cl.length st])
    else (goF B n (rCl B n cl.length st).2.1.1 0, (rCl B n cl.length st).2.1, cl ++ [clE B n cl.length st])
def rRule (B : Nat → Nat) (n : Nat) : Int32 × rS × List (Nat × Nat × Nat) := rRL B n 13 (skp B n 0, 0, []) []
/-- the clauses stand -/
def Ccl (I : Nat → Nat → Int32) (ru : Nat) (cl : List (Nat × Nat × Nat)) : Prop := ∀ j c, cl[j]? = some c → I (ru + 2) j = nI c.1 ∧ I (ru + 3) j = nI c.2.1 ∧ I (ru + 4) j = nI c.2.2
def QFc (I J : Nat → Nat → Int32) (ru : Nat) : Prop := ∀ i k, (i ≠ 1 ∨ (k ≠ 2 ∧ k ≠ 7)) → (i ≠ 7 ∨ k ≠ 2) → (i < ru ∨ ru + 4 < i) → J i k = I i k
theorem Cst.fr {J : Nat → Nat → Int32} (h : Cst I B n E ru st) (e : ∀ i k, (i ≤ 7 ∨ (i = ru ∧ k = 1) ∨ i = ru + 1) → J i k = I i k) : Cst J B n E ru st :=
  ⟨h.1.any (fun i k hi => e i k (by omega)), (e 7 2 (by omega)).trans h.2.1, h.2.2.1, (e ru 1 (by omega)).trans h.2.2.2.1, h.2.2.2.2.1, fun k x q => (e (ru + 1) k (by omega)).trans (h.2.2.2.2.2 k x q)⟩
theorem Csw.fr {J : Nat → Nat → Int32} {F : Int32} (h : Csw I B n E ru F) (e : ∀ i k, (i ≤ 7 ∨ (i = ru ∧ k = 1) ∨ i = ru + 1) → J i k = I i k) : Csw J B n E ru F := by
  obtain ⟨h0x, p, c, l, h1x, h2x, h3x, h4x, h5x⟩ := h
  exact ⟨h0x, p, c, l, h1x.any (fun i k hi => e i k (by omega)), (e 7 2 (by omega)).trans h2x, h3x, (e ru 1 (by omega)).trans h4x, h5x⟩
theorem Ccl.snoc {J : Nat → Nat → Int32} {c : Nat × Nat × Nat} (h : Ccl I ru cl) (e : ∀ i k, i = ru + 2 ∨ i = ru + 3 ∨ i = ru + 4 → k < cl.length → J i k = I i k) (h1x : J (ru + 2) cl.length = nI c.1) (h2x : J (ru + 3) cl.length = nI c.2.1) (h3x : J (ru + 4) cl.length = nI c.2.2) : Ccl J ru (cl ++ [c]) := by
  intro j x q
  by_cases ek : j < cl.length
  · rw [List.getElem?_append_left ek] at q
    have := h j x q
    rw [e _ _ (Or.inl rfl) ek, e _ _ (Or.inr (Or.inl rfl)) ek, e _ _ (Or.inr (Or.inr rfl)) ek]; exact this
  · have q2x := (List.getElem?_eq_some_iff.mp q).1
    rw [List.length_append] at q2x
    have e3x : j = cl.length := by simp at q2x; omega
    subst e3x
    rw [List.getElem?_append_right (Nat.le_refl _), Nat.sub_self] at q
    have e4x : c = x := by simpa using q
    rw [← e4x]; exact ⟨h1x, h2x, h3x⟩
theorem cs_clause (hT : TpAt sh R) (hA : RRAt sh R ru) (hU : RuAt sh R ru) (hr : Cst I B n E ru st) (hc : Ccl I ru cl) (hi : cl.length ≤ 12) : Ec X 26 72 [.ref 7, .int (nI cl.length)] (sh, I, L, R) (fun r h' => r = none ∧ ∃ J : Nat → Nat → Int32, h' = (sh, J, L, R) ∧ QFc I J ru ∧ (((rCl B n cl.length st).1 = 0 ∧ Cst J B n E ru (rCl B n cl.length st).2.1 ∧ Ccl J ru (cl ++ [clE B n cl.length st]) ∧ J ru 2 = nI (cl.length + 1)) ∨ Csw J B n E ru (rCl B n cl.length st).1)) := by
  obtain ⟨hp, hn⟩ := hr.le
  have h9x := hA.2.2.2
  refine Ec.of (Nat.le_of_ble_eq_true rfl) ?_
  refine e_aload rfl rfl ?_
  refine e_getR rfl hA.1 hA.2.1 ?_
  refine Eg.p1 rfl (by decide) (by decide) rfl (Nat.le_of_ble_eq_true rfl) (xrcv_of rfl hT.1 rfl) ((cs_wordHere hT hr.1).mono (by decide)) ?_
  refine e_istore rfl ?_
  refine e_iload rfl rfl ?_
  refine e_ipush rfl ?_
  refine e_ceq_b rfl (fun b11x => ?_) (fun b11x => ?_)
  · refine e_iload rfl rfl ?_
    refine e_ipush rfl ?_
    refine e_clt_b rfl (fun b32x => ?_) (fun b32x => ?_)
    · have b32x := (nI_lti (b := 12) (by omega) (by decide)).mp b32x
      refine e_aload rfl rfl ?_
      refine e_getR rfl hA.1 hA.2.1 ?_
      refine Eg.c1 rfl (by decide) (by decide) rfl (Nat.le_of_ble_eq_true rfl) (xrcv_of rfl hT.1 rfl) ((cs_step hT hr.1).mono (by decide)) (fun r1x h1x hq => ?_)
      obtain ⟨rfl, K1x, rfl, g1x, a1x⟩ := hq
      have c1x : Cst K1x B n E ru (goN B n st) := hr.go h9x g1x a1x
      have q1x : QFr I K1x ru := QFr.of a1x
      refine e_aload rfl rfl ?_
      refine e_getR rfl hA.1 hA.2.2.1 ?_
      refine e_getR rfl hU.1 (hU.2 1 _ rfl).2 ?_
      refine e_iload rfl rfl ?_
      refine e_aload rfl rfl ?_
      refine e_getR rfl hA.1 hA.2.2.1 ?_
      refine e_getIv rfl hU.1 c1x.2.2.2.1 ?_
      refine e_iasJ (t := cl.length) (n := 12) rfl (hU.2 1 _ rfl).1 rfl (by omega) (by decide) (fun J21x g21x f21x => ?_)
      have c21x : Cst J21x B n E ru (goN B n st) := c1x.fr (fun i k h => f21x i k (by omega))
      refine e_iload rfl rfl ?_
      refine e_ipush rfl ?_
      refine e_cne_f rfl b11x ?_
      refine e_aload rfl rfl ?_
      refine Eg.c1 rfl (by decide) (by decide) rfl (Nat.le_of_ble_eq_true rfl) (xrcv_of rfl hA.1 rfl) ((cs_readSum hT hA hU c21x).mono (by decide)) (fun r1x h1x hq => ?_)
      obtain ⟨rfl, K3x, rfl, q3x, hc3x⟩ := hq
      rcases hc3x with ⟨e3x, c3x⟩ | v3x
      · have c3' := c3x
        refine e_aload rfl rfl ?_
        refine e_getR rfl hA.1 hA.2.2.1 ?_
        refine e_getR rfl hU.1 (hU.2 2 _ rfl).2 ?_
        refine e_iload rfl rfl ?_
        refine e_aload rfl rfl ?_
        refine e_getR rfl hA.1 hA.2.2.1 ?_
        refine e_getIv rfl hU.1 c3x.2.2.2.1 ?_
        refine e_iasJ (t := cl.length) (n := 12) rfl (hU.2 2 _ rfl).1 rfl (by omega) (by decide) (fun J22x g22x f22x => ?_)
        have c22x : Cst J22x B n E ru (rSum B n (goN B n st)).2 := c3x.fr (fun i k h => f22x i k (by omega))
        refine e_iload rfl rfl ?_
        refine e_ipush rfl ?_
        refine e_cne_t rfl (by rw [b11x]; decide) ?_
        refine e_aload rfl rfl ?_
        refine e_getR rfl hA.1 hA.2.1 ?_
        refine e_getIv rfl hT.1 c22x.1.2.2.1 ?_
        refine e_ifne_f rfl rfl ?_
        refine e_aload rfl rfl ?_
        refine e_getR rfl hA.1 hA.2.1 ?_
        refine Eg.p1 rfl (by decide) (by decide) rfl (Nat.le_of_ble_eq_true rfl) (xrcv_of rfl hT.1 rfl) ((cs_wordHere hT c22x.1).mono (by decide)) ?_
        refine e_ipush rfl ?_
        refine e_cne_b rfl (fun b126x => ?_) (fun b126x => ?_)
        · refine e_aload rfl rfl ?_
          refine e_getR rfl hA.1 hA.2.2.1 ?_
          refine e_getR rfl hU.1 (hU.2 3 _ rfl).2 ?_
          refine e_iload rfl rfl ?_
          refine e_aload rfl rfl ?_
          refine e_getR rfl hA.1 hA.2.2.1 ?_
          refine e_getIv rfl hU.1 c22x.2.2.2.1 ?_
          refine e_iasJ (t := cl.length) (n := 12) rfl (hU.2 3 _ rfl).1 rfl (by omega) (by decide) (fun J23x g23x f23x => ?_)
          have c23x : Cst J23x B n E ru (rSum B n (goN B n st)).2 := c22x.fr (fun i k h => f23x i k (by omega))
          refine e_aload rfl rfl ?_
          refine e_getR rfl hA.1 hA.2.2.1 ?_
          refine e_iload rfl rfl ?_
          refine e_ipush rfl ?_
          refine e_iadd rfl ?_
          rw [show (nI cl.length) + 1 = nI (cl.length + 1) from nI_1 _]
          refine e_putIJ rfl hU.1 (fun J24x g24x f24x => ?_)
          have c24x : Cst J24x B n E ru (rSum B n (goN B n st)).2 := c23x.fr (fun i k h => f24x i k (by omega))
          have qf : QFc I J24x ru := fun i k a b c => ((f24x i k (by omega)).trans ((f23x i k (by omega)).trans ((f22x i k (by omega)).trans ((q3x i k (by omega) (by omega) (by omega) (by omega)).trans ((f21x i k (by omega)).trans (q1x i k (by omega) (by omega) (by omega) (by omega)))))))
          have eD : rCl B n cl.length st = (0, (rSum B n (goN B n st)).2, (rSum B n (goN B n st)).2.2.2.length) := by unfold rCl; rw [if_neg (fun q => q (Or.inl b11x)), if_neg (by omega), if_pos b11x, if_neg (fun q => q e3x), if_neg b126x]
          refine Eg.ret rfl (by decide) rfl ⟨rfl, J24x, rfl, qf, Or.inl ⟨by rw [eD], by rw [eD]; exact c24x, ?_, g24x⟩⟩
          unfold clE; rw [eD]
          refine hc.snoc (fun i k h1x h2x => ((f24x i k (by omega)).trans ((f23x i k (by omega)).trans ((f22x i k (by omega)).trans ((q3x i k (by omega) (by omega) (by omega) (by omega)).trans ((f21x i k (by omega)).trans (q1x i k (by omega) (by omega) (by omega) (by omega)))))))) ?_ ?_ ?_
          · exact ((f24x (ru + 2) _ (by omega)).trans ((f23x (ru + 2) _ (by omega)).trans ((f22x (ru + 2) _ (by omega)).trans (q3x (ru + 2) _ (by omega) (by omega) (by omega) (by omega))))).trans g21x
          · exact ((f24x (ru + 3) _ (by omega)).trans (f23x (ru + 3) _ (by omega))).trans g22x
          · exact (f24x (ru + 4) _ (by omega)).trans g23x
        · refine e_aload rfl rfl ?_
          refine e_getR rfl hA.1 hA.2.1 ?_
          refine Eg.c1 rfl (by decide) (by decide) rfl (Nat.le_of_ble_eq_true rfl) (xrcv_of rfl hT.1 rfl) ((cs_step hT c22x.1).mono (by decide)) (fun r1x h1x hq => ?_)
          obtain ⟨rfl, K5x, rfl, g5x, a5x⟩ := hq
          have c5x : Cst K5x B n E ru (goN B n (rSum B n (goN B n st)).2) := c22x.go h9x g5x a5x
          have q5x : QFr J22x K5x ru := QFr.of a5x
          refine e_aload rfl rfl ?_
          refine e_ipush rfl ?_
          refine Eg.c2 rfl (by decide) (by decide) rfl (Nat.le_of_ble_eq_true rfl) (xrcv_of rfl hA.1 rfl) ((cs_readTest hT hA hU (cs_readFact hT hA hU 10) _ 0 (goN B n (rSum B n (goN B n st)).2) rfl c5x).mono (by decide)) (fun r1x h1x hq => ?_)
          obtain ⟨rfl, K6x, rfl, q6x, hc6x⟩ := hq
          rcases hc6x with ⟨e6x, c6x⟩ | v6x
          · have c6' := c6x
            refine e_aload rfl rfl ?_
            refine e_getR rfl hA.1 hA.2.2.1 ?_
            refine e_getR rfl hU.1 (hU.2 3 _ rfl).2 ?_
            refine e_iload rfl rfl ?_
            refine e_aload rfl rfl ?_
            refine e_getR rfl hA.1 hA.2.2.1 ?_
            refine e_getIv rfl hU.1 c6x.2.2.2.1 ?_
            refine e_iasJ (t := cl.length) (n := 12) rfl (hU.2 3 _ rfl).1 rfl (by omega) (by decide) (fun J25x g25x f25x => ?_)
            have c25x : Cst J25x B n E ru (rTest B n 10 (goN B n (rSum B n (goN B n st)).2)).2 := c6x.fr (fun i k h => f25x i k (by omega))
            refine e_aload rfl rfl ?_
            refine e_getR rfl hA.1 hA.2.2.1 ?_
            refine e_iload rfl rfl ?_
            refine e_ipush rfl ?_
            refine e_iadd rfl ?_
            rw [show (nI cl.length) + 1 = nI (cl.length + 1) from nI_1 _]
            refine e_putIJ rfl hU.1 (fun J26x g26x f26x => ?_)
            have c26x : Cst J26x B n E ru (rTest B n 10 (goN B n (rSum B n (goN B n st)).2)).2 := c25x.fr (fun i k h => f26x i k (by omega))
            have qf : QFc I J26x ru := fun i k a b c => ((f26x i k (by omega)).trans ((f25x i k (by omega)).trans ((q6x i k (by omega) (by omega) (by omega) (by omega)).trans ((q5x i k (by omega) (by omega) (by omega) (by omega)).trans ((f22x i k (by omega)).trans ((q3x i k (by omega) (by omega) (by omega) (by omega)).trans ((f21x i k (by omega)).trans (q1x i k (by omega) (by omega) (by omega) (by omega)))))))))
            have eD : rCl B n cl.length st = (0, (rTest B n 10 (goN B n (rSum B n (goN B n st)).2)).2, (rSum B n (goN B n st)).2.2.2.length) := by unfold rCl; rw [if_neg (fun q => q (Or.inl b11x)), if_neg (by omega), if_pos b11x, if_neg (fun q => q e3x), if_pos b126x]; exact Prod.ext e6x rfl
            refine Eg.ret rfl (by decide) rfl ⟨rfl, J26x, rfl, qf, Or.inl ⟨by rw [eD], by rw [eD]; exact c26x, ?_, g26x⟩⟩
            unfold clE; rw [eD]
            refine hc.snoc (fun i k h1x h2x => ((f26x i k (by omega)).trans ((f25x i k (by omega)).trans ((q6x i k (by omega) (by omega) (by omega) (by omega)).trans ((q5x i k (by omega) (by omega) (by omega) (by omega)).trans ((f22x i k (by omega)).trans ((q3x i k (by omega) (by omega) (by omega) (by omega)).trans ((f21x i k (by omega)).trans (q1x i k (by omega) (by omega) (by omega) (by omega)))))))))) ?_ ?_ ?_
            · exact ((f26x (ru + 2) _ (by omega)).trans ((f25x (ru + 2) _ (by omega)).trans ((q6x (ru + 2) _ (by omega) (by omega) (by omega) (by omega)).trans ((q5x (ru + 2) _ (by omega) (by omega) (by omega) (by omega)).trans ((f22x (ru + 2) _ (by omega)).trans (q3x (ru + 2) _ (by omega) (by omega) (by omega) (by omega))))))).trans g21x
            · exact ((f26x (ru + 3) _ (by omega)).trans ((f25x (ru + 3) _ (by omega)).trans ((q6x (ru + 3) _ (by omega) (by omega) (by omega) (by omega)).trans (q5x (ru + 3) _ (by omega) (by omega) (by omega) (by omega))))).trans g22x
            · exact (f26x (ru + 4) _ (by omega)).trans g25x
          · obtain ⟨z6x, p6x, cc6x, l6x, r6x, -, -, y6x, -⟩ := id v6x
            refine e_aload rfl rfl ?_
            refine e_getR rfl hA.1 hA.2.2.1 ?_
            refine e_getR rfl hU.1 (hU.2 3 _ rfl).2 ?_
            refine e_iload rfl rfl ?_
            refine e_aload rfl rfl ?_
            refine e_getR rfl hA.1 hA.2.2.1 ?_
            refine e_getIv rfl hU.1 y6x ?_
            refine e_iasJ (t := cl.length) (n := 12) rfl (hU.2 3 _ rfl).1 rfl (by omega) (by decide) (fun J27x g27x f27x => ?_)
            have v27x := v6x.fr (J := J27x) (fun i k h => f27x i k (by omega))
            have y27x : J27x ru 1 = nI l6x := (f27x ru 1 (by omega)).trans y6x
            have r27x := r6x.any (J := J27x) (fun i k h => f27x i k (by omega))
            refine e_aload rfl rfl ?_
            refine e_getR rfl hA.1 hA.2.2.1 ?_
            refine e_iload rfl rfl ?_
            refine e_ipush rfl ?_
            refine e_iadd rfl ?_
            rw [show (nI cl.length) + 1 = nI (cl.length + 1) from nI_1 _]
            refine e_putIJ rfl hU.1 (fun J28x g28x f28x => ?_)
            have v28x := v27x.fr (J := J28x) (fun i k h => f28x i k (by omega))
            have y28x : J28x ru 1 = nI l6x := (f28x ru 1 (by omega)).trans y27x
            have r28x := r27x.any (J := J28x) (fun i k h => f28x i k (by omega))
            have qf : QFc I J28x ru := fun i k a b c => ((f28x i k (by omega)).trans ((f27x i k (by omega)).trans ((q6x i k (by omega) (by omega) (by omega) (by omega)).trans ((q5x i k (by omega) (by omega) (by omega) (by omega)).trans ((f22x i k (by omega)).trans ((q3x i k (by omega) (by omega) (by omega) (by omega)).trans ((f21x i k (by omega)).trans (q1x i k (by omega) (by omega) (by omega) (by omega)))))))))
            have eD : (rCl B n cl.length st).1 = (rTest B n 10 (goN B n (rSum B n (goN B n st)).2)).1 := by unfold rCl; rw [if_neg (fun q => q (Or.inl b11x)), if_neg (by omega), if_pos b11x, if_neg (fun q => q e3x), if_pos b126x]
            exact Eg.ret rfl (by decide) rfl ⟨rfl, J28x, rfl, qf, Or.inr (by rw [eD]; exact v28x)⟩
      · obtain ⟨z3x, p3x, cc3x, l3x, r3x, -, -, y3x, -⟩ := id v3x
        refine e_aload rfl rfl ?_
        refine e_getR rfl hA.1 hA.2.2.1 ?_
        refine e_getR rfl hU.1 (hU.2 2 _ rfl).2 ?_
        refine e_iload rfl rfl ?_
        refine e_aload rfl rfl ?_
        refine e_getR rfl hA.1 hA.2.2.1 ?_
        refine e_getIv rfl hU.1 y3x ?_
        refine e_iasJ (t := cl.length) (n := 12) rfl (hU.2 2 _ rfl).1 rfl (by omega) (by decide) (fun J29x g29x f29x => ?_)
        have v29x := v3x.fr (J := J29x) (fun i k h => f29x i k (by omega))
        have y29x : J29x ru 1 = nI l3x := (f29x ru 1 (by omega)).trans y3x
        have r29x := r3x.any (J := J29x) (fun i k h => f29x i k (by omega))
        refine e_iload rfl rfl ?_
        refine e_ipush rfl ?_
        refine e_cne_t rfl (by rw [b11x]; decide) ?_
        refine e_aload rfl rfl ?_
        refine e_getR rfl hA.1 hA.2.1 ?_
        refine e_getIv rfl hT.1 r29x.2.2.1 ?_
        refine e_ifne_t rfl v29x.1 ?_
        refine e_aload rfl rfl ?_
        refine e_getR rfl hA.1 hA.2.2.1 ?_
        refine e_getR rfl hU.1 (hU.2 3 _ rfl).2 ?_
        refine e_iload rfl rfl ?_
        refine e_aload rfl rfl ?_
        refine e_getR rfl hA.1 hA.2.2.1 ?_
        refine e_getIv rfl hU.1 y29x ?_
        refine e_iasJ (t := cl.length) (n := 12) rfl (hU.2 3 _ rfl).1 rfl (by omega) (by decide) (fun J30x g30x f30x => ?_)
        have v30x := v29x.fr (J := J30x) (fun i k h => f30x i k (by omega))
        have y30x : J30x ru 1 = nI l3x := (f30x ru 1 (by omega)).trans y29x
        have r30x := r29x.any (J := J30x) (fun i k h => f30x i k (by omega))
        refine e_aload rfl rfl ?_
        refine e_getR rfl hA.1 hA.2.2.1 ?_
        refine e_iload rfl rfl ?_
        refine e_ipush rfl ?_
        refine e_iadd rfl ?_
        rw [show (nI cl.length) + 1 = nI (cl.length + 1) from nI_1 _]
        refine e_putIJ rfl hU.1 (fun J31x g31x f31x => ?_)
        have v31x := v30x.fr (J := J31x) (fun i k h => f31x i k (by omega))
        have y31x : J31x ru 1 = nI l3x := (f31x ru 1 (by omega)).trans y30x
        have r31x := r30x.any (J := J31x) (fun i k h => f31x i k (by omega))
        have qf : QFc I J31x ru := fun i k a b c => ((f31x i k (by omega)).trans ((f30x i k (by omega)).trans ((f29x i k (by omega)).trans ((q3x i k (by omega) (by omega) (by omega) (by omega)).trans ((f21x i k (by omega)).trans (q1x i k (by omega) (by omega) (by omega) (by omega)))))))
        have eD : (rCl B n cl.length st).1 = (rSum B n (goN B n st)).1 := by unfold rCl; rw [if_neg (fun q => q (Or.inl b11x)), if_neg (by omega), if_pos b11x, if_pos z3x]
        exact Eg.ret rfl (by decide) rfl ⟨rfl, J31x, rfl, qf, Or.inr (by rw [eD]; exact v31x)⟩
    · have b32x := nlt (b := 12) (by omega) (by decide) b32x
      refine e_aload rfl rfl ?_
      refine e_getR rfl hA.1 hA.2.1 ?_
      refine e_ipush rfl ?_
      refine Eg.c2 rfl (by decide) (by decide) rfl (Nat.le_of_ble_eq_true rfl) (xrcv_of rfl hT.1 rfl) ((cs_fail hT hr.1 (k := 4)).mono (by decide)) (fun r1x h1x hq => ?_)
      obtain ⟨rfl, J, rfl, a1x, a2x⟩ := hq
      have eD : (rCl B n cl.length st).1 = fl 0 st.1 4 := by unfold rCl; rw [if_neg (fun q => q (Or.inl b11x)), if_pos b32x]
      exact Eg.ret rfl (by decide) rfl ⟨rfl, J, rfl, fun i k a b c => a2x i k a, Or.inr (by rw [eD]; exact hr.wk h9x (fl_ne (by omega)) a1x a2x)⟩
  · refine e_iload rfl rfl ?_
    refine e_ipush rfl ?_
    refine e_ceq_b rfl (fun b17x => ?_) (fun b17x => ?_)
    · refine e_iload rfl rfl ?_
      refine e_ipush rfl ?_
      refine e_clt_b rfl (fun b32x => ?_) (fun b32x => ?_)
      · have b32x := (nI_lti (b := 12) (by omega) (by decide)).mp b32x
        refine e_aload rfl rfl ?_
        refine e_getR rfl hA.1 hA.2.1 ?_
        refine Eg.c1 rfl (by decide) (by decide) rfl (Nat.le_of_ble_eq_true rfl) (xrcv_of rfl hT.1 rfl) ((cs_step hT hr.1).mono (by decide)) (fun r1x h1x hq => ?_)
        obtain ⟨rfl, K1x, rfl, g1x, a1x⟩ := hq
        have c1x : Cst K1x B n E ru (goN B n st) := hr.go h9x g1x a1x
        have q1x : QFr I K1x ru := QFr.of a1x
        refine e_aload rfl rfl ?_
        refine e_getR rfl hA.1 hA.2.2.1 ?_
        refine e_getR rfl hU.1 (hU.2 1 _ rfl).2 ?_
        refine e_iload rfl rfl ?_
        refine e_aload rfl rfl ?_
        refine e_getR rfl hA.1 hA.2.2.1 ?_
        refine e_getIv rfl hU.1 c1x.2.2.2.1 ?_
        refine e_iasJ (t := cl.length) (n := 12) rfl (hU.2 1 _ rfl).1 rfl (by omega) (by decide) (fun J32x g32x f32x => ?_)
        have c32x : Cst J32x B n E ru (goN B n st) := c1x.fr (fun i k h => f32x i k (by omega))
        refine e_iload rfl rfl ?_
        refine e_ipush rfl ?_
        refine e_cne_t rfl b11x ?_
        refine e_aload rfl rfl ?_
        refine e_getR rfl hA.1 hA.2.2.1 ?_
        refine e_getR rfl hU.1 (hU.2 2 _ rfl).2 ?_
        refine e_iload rfl rfl ?_
        refine e_aload rfl rfl ?_
        refine e_getR rfl hA.1 hA.2.2.1 ?_
        refine e_getIv rfl hU.1 c32x.2.2.2.1 ?_
        refine e_iasJ (t := cl.length) (n := 12) rfl (hU.2 2 _ rfl).1 rfl (by omega) (by decide) (fun J33x g33x f33x => ?_)
        have c33x : Cst J33x B n E ru (goN B n st) := c32x.fr (fun i k h => f33x i k (by omega))
        refine e_iload rfl rfl ?_
        refine e_ipush rfl ?_
        refine e_cne_f rfl b17x ?_
        refine e_aload rfl rfl ?_
        refine e_ipush rfl ?_
        refine Eg.c2 rfl (by decide) (by decide) rfl (Nat.le_of_ble_eq_true rfl) (xrcv_of rfl hA.1 rfl) ((cs_readTest hT hA hU (cs_readFact hT hA hU 10) _ 0 (goN B n st) rfl c33x).mono (by decide)) (fun r1x h1x hq => ?_)
        obtain ⟨rfl, K4x, rfl, q4x, hc4x⟩ := hq
        rcases hc4x with ⟨e4x, c4x⟩ | v4x
        · have c4' := c4x
          refine e_goto rfl ?_
          refine e_aload rfl rfl ?_
          refine e_getR rfl hA.1 hA.2.2.1 ?_
          refine e_getR rfl hU.1 (hU.2 3 _ rfl).2 ?_
          refine e_iload rfl rfl ?_
          refine e_aload rfl rfl ?_
          refine e_getR rfl hA.1 hA.2.2.1 ?_
          refine e_getIv rfl hU.1 c4x.2.2.2.1 ?_
          refine e_iasJ (t := cl.length) (n := 12) rfl (hU.2 3 _ rfl).1 rfl (by omega) (by decide) (fun J34x g34x f34x => ?_)
          have c34x : Cst J34x B n E ru (rTest B n 10 (goN B n st)).2 := c4x.fr (fun i k h => f34x i k (by omega))
          refine e_aload rfl rfl ?_
          refine e_getR rfl hA.1 hA.2.2.1 ?_
          refine e_iload rfl rfl ?_
          refine e_ipush rfl ?_
          refine e_iadd rfl ?_
          rw [show (nI cl.length) + 1 = nI (cl.length + 1) from nI_1 _]
          refine e_putIJ rfl hU.1 (fun J35x g35x f35x => ?_)
          have c35x : Cst J35x B n E ru (rTest B n 10 (goN B n st)).2 := c34x.fr (fun i k h => f35x i k (by omega))
          have qf : QFc I J35x ru := fun i k a b c => ((f35x i k (by omega)).trans ((f34x i k (by omega)).trans ((q4x i k (by omega) (by omega) (by omega) (by omega)).trans ((f33x i k (by omega)).trans ((f32x i k (by omega)).trans (q1x i k (by omega) (by omega) (by omega) (by omega)))))))
          have eD : rCl B n cl.length st = (0, (rTest B n 10 (goN B n st)).2, (goN B n st).2.2.length) := by unfold rCl; rw [if_neg (fun q => q (Or.inr b17x)), if_neg (by omega), if_neg b11x]; exact Prod.ext e4x rfl
          refine Eg.ret rfl (by decide) rfl ⟨rfl, J35x, rfl, qf, Or.inl ⟨by rw [eD], by rw [eD]; exact c35x, ?_, g35x⟩⟩
          unfold clE; rw [eD]
          refine hc.snoc (fun i k h1x h2x => ((f35x i k (by omega)).trans ((f34x i k (by omega)).trans ((q4x i k (by omega) (by omega) (by omega) (by omega)).trans ((f33x i k (by omega)).trans ((f32x i k (by omega)).trans (q1x i k (by omega) (by omega) (by omega) (by omega)))))))) ?_ ?_ ?_
          · exact ((f35x (ru + 2) _ (by omega)).trans ((f34x (ru + 2) _ (by omega)).trans ((q4x (ru + 2) _ (by omega) (by omega) (by omega) (by omega)).trans (f33x (ru + 2) _ (by omega))))).trans g32x
          · exact ((f35x (ru + 3) _ (by omega)).trans ((f34x (ru + 3) _ (by omega)).trans (q4x (ru + 3) _ (by omega) (by omega) (by omega) (by omega)))).trans g33x
          · exact (f35x (ru + 4) _ (by omega)).trans g34x
        · obtain ⟨z4x, p4x, cc4x, l4x, r4x, -, -, y4x, -⟩ := id v4x
          refine e_goto rfl ?_
          refine e_aload rfl rfl ?_
          refine e_getR rfl hA.1 hA.2.2.1 ?_
          refine e_getR rfl hU.1 (hU.2 3 _ rfl).2 ?_
          refine e_iload rfl rfl ?_
          refine e_aload rfl rfl ?_
          refine e_getR rfl hA.1 hA.2.2.1 ?_
          refine e_getIv rfl hU.1 y4x ?_
          refine e_iasJ (t := cl.length) (n := 12) rfl (hU.2 3 _ rfl).1 rfl (by omega) (by decide) (fun J36x g36x f36x => ?_)
          have v36x := v4x.fr (J := J36x) (fun i k h => f36x i k (by omega))
          have y36x : J36x ru 1 = nI l4x := (f36x ru 1 (by omega)).trans y4x
          have r36x := r4x.any (J := J36x) (fun i k h => f36x i k (by omega))
          refine e_aload rfl rfl ?_
          refine e_getR rfl hA.1 hA.2.2.1 ?_
          refine e_iload rfl rfl ?_
          refine e_ipush rfl ?_
          refine e_iadd rfl ?_
          rw [show (nI cl.length) + 1 = nI (cl.length + 1) from nI_1 _]
          refine e_putIJ rfl hU.1 (fun J37x g37x f37x => ?_)
          have v37x := v36x.fr (J := J37x) (fun i k h => f37x i k (by omega))
          have y37x : J37x ru 1 = nI l4x := (f37x ru 1 (by omega)).trans y36x
          have r37x := r36x.any (J := J37x) (fun i k h => f37x i k (by omega))
          have qf : QFc I J37x ru := fun i k a b c => ((f37x i k (by omega)).trans ((f36x i k (by omega)).trans ((q4x i k (by omega) (by omega) (by omega) (by omega)).trans ((f33x i k (by omega)).trans ((f32x i k (by omega)).trans (q1x i k (by omega) (by omega) (by omega) (by omega)))))))
          have eD : (rCl B n cl.length st).1 = (rTest B n 10 (goN B n st)).1 := by unfold rCl; rw [if_neg (fun q => q (Or.inr b17x)), if_neg (by omega), if_neg b11x]
          exact Eg.ret rfl (by decide) rfl ⟨rfl, J37x, rfl, qf, Or.inr (by rw [eD]; exact v37x)⟩
      · have b32x := nlt (b := 12) (by omega) (by decide) b32x
        refine e_aload rfl rfl ?_
        refine e_getR rfl hA.1 hA.2.1 ?_
        refine e_ipush rfl ?_
        refine Eg.c2 rfl (by decide) (by decide) rfl (Nat.le_of_ble_eq_true rfl) (xrcv_of rfl hT.1 rfl) ((cs_fail hT hr.1 (k := 4)).mono (by decide)) (fun r1x h1x hq => ?_)
        obtain ⟨rfl, J, rfl, a1x, a2x⟩ := hq
        have eD : (rCl B n cl.length st).1 = fl 0 st.1 4 := by unfold rCl; rw [if_neg (fun q => q (Or.inr b17x)), if_pos b32x]
        exact Eg.ret rfl (by decide) rfl ⟨rfl, J, rfl, fun i k a b c => a2x i k a, Or.inr (by rw [eD]; exact hr.wk h9x (fl_ne (by omega)) a1x a2x)⟩
    · refine e_aload rfl rfl ?_
      refine e_getR rfl hA.1 hA.2.1 ?_
      refine e_ipush rfl ?_
      refine Eg.c2 rfl (by decide) (by decide) rfl (Nat.le_of_ble_eq_true rfl) (xrcv_of rfl hT.1 rfl) ((cs_fail hT hr.1 (k := 0)).mono (by decide)) (fun r1x h1x hq => ?_)
      obtain ⟨rfl, J, rfl, a1x, a2x⟩ := hq
      have eD : (rCl B n cl.length st).1 = fl 0 st.1 0 := by unfold rCl; rw [if_pos (fun q => q.elim b11x b17x)]
      exact Eg.ret rfl (by decide) rfl ⟨rfl, J, rfl, fun i k a b c => a2x i k a, Or.inr (by rw [eD]; exact hr.wk h9x (fl_ne (by omega)) a1x a2x)⟩
end CR7x
