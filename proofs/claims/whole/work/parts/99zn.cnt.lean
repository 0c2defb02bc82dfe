/-! count, both sides -/
section CT
variable {X : xX} {h : xH} {sh : List (Nat × Nat)} {I : Nat → Nat → Int32} {L : Nat → Nat → Int64} {R : Nat → Nat → Option Nat} {v : Nat → Nat → Int32} {w s m : Nat}
variable {rc a n : Nat}
def cntL (v : Nat → Nat → Int32) (rc a n : Nat) : List Int32 := [nI (cn v 0), nI (cn v 1), nI (cn v 2), nI (cn v 3), nI (cn v 4), nI rc, nI (cn v 7), nI (cn v 8), nI (dgn v (cn v 9)), nI a, nI (cn v 10), nI (cn v 11), nI (cn v 12), dryN v, nI (cn v 5), if cn v 0 = 0 then -1 else nI (cn v 6), v 1 13, nI n]
def aCount (v : Nat → Nat → Int32) (rc a n : Nat) (x : Int32) : Int32 := if x < 0 ∨ 17 < x then -1 else (cntL v rc a n).getD x.toNatClampNeg 0
theorem aCount_out {x : Int32} (h : ∀ t, t < 18 → ¬ x = nI t) : aCount v rc a n x = -1 := if_pos (Decidable.byContradiction (fun q => by
  obtain ⟨t, lt, rfl⟩ := nI_of (x := x) (fun r => q (Or.inl r))
  exact h t (Decidable.byContradiction (fun r => q (Or.inr ((nI_lti (a := 17) (by decide) lt).mpr (by omega))))) rfl))
theorem cf_count (hq : CQ sh I R w m s v) (hWA : WorldAt sh R w) (hWV : WorV I w v) (h04x : I 0 4 = nI rc) (h2x : I w 2 = nI a) (r00x : R 0 0 = some 1) (s1x : sh[1]? = some (9, 8)) (h11x : I 1 1 = nI n) {x : Int32} : Ec X 3 171 [.ref 0, .int x] (sh, I, L, R) (fun r h' => r = some (.int (aCount v rc a n x)) ∧ h' = (sh, I, L, R)) := by
  obtain ⟨h0x, r7x, hWd, rm, hM, hms, hS, hV, hU, hw, hW⟩ := hq
  refine Ec.of (Nat.le_of_ble_eq_true rfl) ?_
  refine e_aload rfl rfl ?_
  refine e_getR rfl h0x r7x ?_
  refine e_getR rfl hWd rm ?_
  refine e_astore rfl ?_
  refine e_iload rfl rfl ?_
  by_cases q0x : x = 0
  · subst q0x
    refine e_tsw rfl (by decide) rfl ?_
    refine e_aload rfl rfl ?_
    refine e_getR rfl hM.1 hms ?_
    refine e_getIv rfl hS.1 (hV.1 0 (by decide)) ?_
    exact Eg.ret rfl (by decide) rfl ⟨congrArg (fun q => some (Value.int q)) (show aCount v rc a n 0 = _ from (if_neg (by decide)).trans rfl).symm, rfl⟩
  · by_cases q1x : x = 1
    · subst q1x
      refine e_tsw rfl (by decide) rfl ?_
      refine e_aload rfl rfl ?_
      refine e_getR rfl hM.1 hms ?_
      refine e_getIv rfl hS.1 (hV.1 1 (by decide)) ?_
      exact Eg.ret rfl (by decide) rfl ⟨congrArg (fun q => some (Value.int q)) (show aCount v rc a n 1 = _ from (if_neg (by decide)).trans rfl).symm, rfl⟩
    · by_cases q2x : x = 2
      · subst q2x
        refine e_tsw rfl (by decide) rfl ?_
        refine e_aload rfl rfl ?_
        refine e_getR rfl hM.1 hms ?_
        refine e_getIv rfl hS.1 (hV.1 2 (by decide)) ?_
        exact Eg.ret rfl (by decide) rfl ⟨congrArg (fun q => some (Value.int q)) (show aCount v rc a n 2 = _ from (if_neg (by decide)).trans rfl).symm, rfl⟩
      · by_cases q3x : x = 3
        · subst q3x
          refine e_tsw rfl (by decide) rfl ?_
          refine e_aload rfl rfl ?_
          refine e_getR rfl hM.1 hms ?_
          refine e_getIv rfl hS.1 (hV.1 3 (by decide)) ?_
          exact Eg.ret rfl (by decide) rfl ⟨congrArg (fun q => some (Value.int q)) (show aCount v rc a n 3 = _ from (if_neg (by decide)).trans rfl).symm, rfl⟩
        · by_cases q4x : x = 4
          · subst q4x
            refine e_tsw rfl (by decide) rfl ?_
            refine e_aload rfl rfl ?_
            refine e_getR rfl hM.1 hms ?_
            refine e_getIv rfl hS.1 (hV.1 4 (by decide)) ?_
            exact Eg.ret rfl (by decide) rfl ⟨congrArg (fun q => some (Value.int q)) (show aCount v rc a n 4 = _ from (if_neg (by decide)).trans rfl).symm, rfl⟩
          · by_cases q5x : x = 5
            · subst q5x
              refine e_tsw rfl (by decide) rfl ?_
              refine e_aload rfl rfl ?_
              refine e_getIv rfl h0x h04x ?_
              exact Eg.ret rfl (by decide) rfl ⟨congrArg (fun q => some (Value.int q)) (show aCount v rc a n 5 = _ from (if_neg (by decide)).trans rfl).symm, rfl⟩
            · by_cases q6x : x = 6
              · subst q6x
                refine e_tsw rfl (by decide) rfl ?_
                refine e_aload rfl rfl ?_
                refine e_getIv rfl hM.1 hW.1 ?_
                exact Eg.ret rfl (by decide) rfl ⟨congrArg (fun q => some (Value.int q)) (show aCount v rc a n 6 = _ from (if_neg (by decide)).trans rfl).symm, rfl⟩
              · by_cases q7x : x = 7
                · subst q7x
                  refine e_tsw rfl (by decide) rfl ?_
                  refine e_aload rfl rfl ?_
                  refine e_getIv rfl hM.1 hW.2.1 ?_
                  exact Eg.ret rfl (by decide) rfl ⟨congrArg (fun q => some (Value.int q)) (show aCount v rc a n 7 = _ from (if_neg (by decide)).trans rfl).symm, rfl⟩
                · by_cases q8x : x = 8
                  · subst q8x
                    refine e_tsw rfl (by decide) rfl ?_
                    refine e_aload rfl rfl ?_
                    refine e_getIv rfl hM.1 hW.2.2.2.1 ?_
                    exact Eg.ret rfl (by decide) rfl ⟨congrArg (fun q => some (Value.int q)) (show aCount v rc a n 8 = _ from (if_neg (by decide)).trans rfl).symm, rfl⟩
                  · by_cases q9x : x = 9
                    · subst q9x
                      refine e_tsw rfl (by decide) rfl ?_
                      refine e_aload rfl rfl ?_
                      refine e_getR rfl h0x r7x ?_
                      refine e_getIv rfl hWd h2x ?_
                      exact Eg.ret rfl (by decide) rfl ⟨congrArg (fun q => some (Value.int q)) (show aCount v rc a n 9 = _ from (if_neg (by decide)).trans rfl).symm, rfl⟩
                    · by_cases q10x : x = 10
                      · subst q10x
                        refine e_tsw rfl (by decide) rfl ?_
                        refine e_aload rfl rfl ?_
                        refine e_getR rfl h0x r7x ?_
                        refine e_getIv rfl hWd hWV.1 ?_
                        exact Eg.ret rfl (by decide) rfl ⟨congrArg (fun q => some (Value.int q)) (show aCount v rc a n 10 = _ from (if_neg (by decide)).trans rfl).symm, rfl⟩
                      · by_cases q11x : x = 11
                        · subst q11x
                          refine e_tsw rfl (by decide) rfl ?_
                          refine e_aload rfl rfl ?_
                          refine e_getR rfl h0x r7x ?_
                          refine e_getIv rfl hWd hWV.2.2.1 ?_
                          exact Eg.ret rfl (by decide) rfl ⟨congrArg (fun q => some (Value.int q)) (show aCount v rc a n 11 = _ from (if_neg (by decide)).trans rfl).symm, rfl⟩
                        · by_cases q12x : x = 12
                          · subst q12x
                            refine e_tsw rfl (by decide) rfl ?_
                            refine e_aload rfl rfl ?_
                            refine e_getR rfl h0x r7x ?_
                            refine e_getR rfl hWd hWA.2.2.2.2.2.2.2.2.1.2 ?_
                            refine e_getIv rfl hWA.2.2.2.2.2.2.2.2.1.1 hWV.2.2.2.2.1 ?_
                            exact Eg.ret rfl (by decide) rfl ⟨congrArg (fun q => some (Value.int q)) (show aCount v rc a n 12 = _ from (if_neg (by decide)).trans rfl).symm, rfl⟩
                          · by_cases q13x : x = 13
                            · subst q13x
                              refine e_tsw rfl (by decide) rfl ?_
                              refine e_aload rfl rfl ?_
                              refine Eg.p1 rfl (by decide) (by decide) rfl (Nat.le_of_ble_eq_true rfl) (xrcv_of rfl hM.1 rfl) ((cs_dryShips hS hV hw hM hms hW).mono (by decide)) ?_
                              exact Eg.ret rfl (by decide) rfl ⟨congrArg (fun q => some (Value.int q)) (show aCount v rc a n 13 = _ from (if_neg (by decide)).trans rfl).symm, rfl⟩
                            · by_cases q14x : x = 14
                              · subst q14x
                                refine e_tsw rfl (by decide) rfl ?_
                                refine e_aload rfl rfl ?_
                                refine e_getR rfl hM.1 hms ?_
                                refine e_getIv rfl hS.1 hV.2.1 ?_
                                exact Eg.ret rfl (by decide) rfl ⟨congrArg (fun q => some (Value.int q)) (show aCount v rc a n 14 = _ from (if_neg (by decide)).trans rfl).symm, rfl⟩
                              · by_cases q15x : x = 15
                                · subst q15x
                                  refine e_tsw rfl (by decide) rfl ?_
                                  refine e_aload rfl rfl ?_
                                  refine e_getR rfl hM.1 hms ?_
                                  refine Eg.p1 rfl (by decide) (by decide) rfl (Nat.le_of_ble_eq_true rfl) (xrcv_of rfl hS.1 rfl) ((cs_isThereV hS hV hw).mono (by decide)) ?_
                                  refine e_ifeq_b rfl (fun b211x => ?_) (fun b211x => ?_)
                                  · replace b211x := yn_0.mp b211x
                                    refine e_ipush rfl ?_
                                    exact Eg.ret rfl (by decide) rfl ⟨congrArg (fun q => some (Value.int q)) (show aCount v rc a n 15 = _ from (if_neg (by decide)).trans (if_pos (Decidable.not_not.mp b211x))).symm, rfl⟩
                                  · replace b211x := yn_n0.mp b211x
                                    refine e_aload rfl rfl ?_
                                    refine e_getR rfl hM.1 hms ?_
                                    refine e_getIv rfl hS.1 hV.2.2.1 ?_
                                    refine e_goto rfl ?_
                                    exact Eg.ret rfl (by decide) rfl ⟨congrArg (fun q => some (Value.int q)) (show aCount v rc a n 15 = _ from (if_neg (by decide)).trans (if_neg b211x)).symm, rfl⟩
                                · by_cases q16x : x = 16
                                  · subst q16x
                                    refine e_tsw rfl (by decide) rfl ?_
                                    refine e_aload rfl rfl ?_
                                    refine e_getR rfl h0x r7x ?_
                                    refine e_getIv rfl hWd hWV.2.2.2.2.2.2 ?_
                                    exact Eg.ret rfl (by decide) rfl ⟨congrArg (fun q => some (Value.int q)) (show aCount v rc a n 16 = _ from (if_neg (by decide)).trans rfl).symm, rfl⟩
                                  · by_cases q17x : x = 17
                                    · subst q17x
                                      refine e_tsw rfl (by decide) rfl ?_
                                      refine e_aload rfl rfl ?_
                                      refine e_getR rfl h0x r00x ?_
                                      refine e_getIv rfl s1x h11x ?_
                                      exact Eg.ret rfl (by decide) rfl ⟨congrArg (fun q => some (Value.int q)) (show aCount v rc a n 17 = _ from (if_neg (by decide)).trans rfl).symm, rfl⟩
                                    · refine e_tswd rfl (sw_out (n := 18) (by decide) (fun t ht e => by match t, ht with | 0, _ => exact q0x e | 1, _ => exact q1x e | 2, _ => exact q2x e | 3, _ => exact q3x e | 4, _ => exact q4x e | 5, _ => exact q5x e | 6, _ => exact q6x e | 7, _ => exact q7x e | 8, _ => exact q8x e | 9, _ => exact q9x e | 10, _ => exact q10x e | 11, _ => exact q11x e | 12, _ => exact q12x e | 13, _ => exact q13x e | 14, _ => exact q14x e | 15, _ => exact q15x e | 16, _ => exact q16x e | 17, _ => exact q17x e | t + 18, hh => exact absurd hh (by omega))) ?_
                                      refine e_ipush rfl ?_
                                      exact Eg.ret rfl (by decide) rfl ⟨congrArg (fun q => some (Value.int q)) (aCount_out (fun t ht e => by match t, ht with | 0, _ => exact q0x e | 1, _ => exact q1x e | 2, _ => exact q2x e | 3, _ => exact q3x e | 4, _ => exact q4x e | 5, _ => exact q5x e | 6, _ => exact q6x e | 7, _ => exact q7x e | 8, _ => exact q8x e | 9, _ => exact q9x e | 10, _ => exact q10x e | 11, _ => exact q11x e | 12, _ => exact q12x e | 13, _ => exact q13x e | 14, _ => exact q14x e | 15, _ => exact q15x e | 16, _ => exact q16x e | 17, _ => exact q17x e | t + 18, hh => exact absurd hh (by omega))).symm, rfl⟩
theorem md_count (hM : MW sh R) (hv : mV I v) (hw : Wf v) (h51x : I 290 51 = nI rc) (h71x : I 290 71 = nI a) (h47x : I 290 47 = nI n) {x : Int32} : Ec X 2 307 [.ref 290, .int x] (sh, I, L, R) (fun r h' => r = some (.int (aCount v rc a n x)) ∧ h' = (sh, I, L, R)) := by
  refine Ec.of (Nat.le_of_ble_eq_true rfl) ?_
  refine e_iload rfl rfl ?_
  by_cases q0x : x = 0
  · subst q0x
    refine e_tsw rfl (by decide) rfl ?_
    refine e_aload rfl rfl ?_
    refine e_getR rfl hM.1 (show R 290 1 = some 291 from (hM.2 0 _ rfl).2) ?_
    refine e_ipush rfl ?_
    refine e_ialv (t := 0) (n := 14) rfl (show sh[291]? = some (20, 14) from (hM.2 0 _ rfl).1) rfl (by decide) (by decide) (hv.n hw (j := 0) (by decide)) ?_
    exact Eg.ret rfl (by decide) rfl ⟨congrArg (fun q => some (Value.int q)) (show aCount v rc a n 0 = _ from (if_neg (by decide)).trans rfl).symm, rfl⟩
  · by_cases q1x : x = 1
    · subst q1x
      refine e_tsw rfl (by decide) rfl ?_
      refine e_aload rfl rfl ?_
      refine e_getR rfl hM.1 (show R 290 1 = some 291 from (hM.2 0 _ rfl).2) ?_
      refine e_ipush rfl ?_
      refine e_ialv (t := 1) (n := 14) rfl (show sh[291]? = some (20, 14) from (hM.2 0 _ rfl).1) rfl (by decide) (by decide) (hv.n hw (j := 1) (by decide)) ?_
      exact Eg.ret rfl (by decide) rfl ⟨congrArg (fun q => some (Value.int q)) (show aCount v rc a n 1 = _ from (if_neg (by decide)).trans rfl).symm, rfl⟩
    · by_cases q2x : x = 2
      · subst q2x
        refine e_tsw rfl (by decide) rfl ?_
        refine e_aload rfl rfl ?_
        refine e_getR rfl hM.1 (show R 290 1 = some 291 from (hM.2 0 _ rfl).2) ?_
        refine e_ipush rfl ?_
        refine e_ialv (t := 2) (n := 14) rfl (show sh[291]? = some (20, 14) from (hM.2 0 _ rfl).1) rfl (by decide) (by decide) (hv.n hw (j := 2) (by decide)) ?_
        exact Eg.ret rfl (by decide) rfl ⟨congrArg (fun q => some (Value.int q)) (show aCount v rc a n 2 = _ from (if_neg (by decide)).trans rfl).symm, rfl⟩
      · by_cases q3x : x = 3
        · subst q3x
          refine e_tsw rfl (by decide) rfl ?_
          refine e_aload rfl rfl ?_
          refine e_getR rfl hM.1 (show R 290 1 = some 291 from (hM.2 0 _ rfl).2) ?_
          refine e_ipush rfl ?_
          refine e_ialv (t := 3) (n := 14) rfl (show sh[291]? = some (20, 14) from (hM.2 0 _ rfl).1) rfl (by decide) (by decide) (hv.n hw (j := 3) (by decide)) ?_
          exact Eg.ret rfl (by decide) rfl ⟨congrArg (fun q => some (Value.int q)) (show aCount v rc a n 3 = _ from (if_neg (by decide)).trans rfl).symm, rfl⟩
        · by_cases q4x : x = 4
          · subst q4x
            refine e_tsw rfl (by decide) rfl ?_
            refine e_aload rfl rfl ?_
            refine e_getR rfl hM.1 (show R 290 1 = some 291 from (hM.2 0 _ rfl).2) ?_
            refine e_ipush rfl ?_
            refine e_ialv (t := 4) (n := 14) rfl (show sh[291]? = some (20, 14) from (hM.2 0 _ rfl).1) rfl (by decide) (by decide) (hv.n hw (j := 4) (by decide)) ?_
            exact Eg.ret rfl (by decide) rfl ⟨congrArg (fun q => some (Value.int q)) (show aCount v rc a n 4 = _ from (if_neg (by decide)).trans rfl).symm, rfl⟩
          · by_cases q5x : x = 5
            · subst q5x
              refine e_tsw rfl (by decide) rfl ?_
              refine e_aload rfl rfl ?_
              refine e_getIv rfl hM.1 h51x ?_
              exact Eg.ret rfl (by decide) rfl ⟨congrArg (fun q => some (Value.int q)) (show aCount v rc a n 5 = _ from (if_neg (by decide)).trans rfl).symm, rfl⟩
            · by_cases q6x : x = 6
              · subst q6x
                refine e_tsw rfl (by decide) rfl ?_
                refine e_aload rfl rfl ?_
                refine e_getR rfl hM.1 (show R 290 1 = some 291 from (hM.2 0 _ rfl).2) ?_
                refine e_ipush rfl ?_
                refine e_ialv (t := 7) (n := 14) rfl (show sh[291]? = some (20, 14) from (hM.2 0 _ rfl).1) rfl (by decide) (by decide) (hv.n hw (j := 7) (by decide)) ?_
                exact Eg.ret rfl (by decide) rfl ⟨congrArg (fun q => some (Value.int q)) (show aCount v rc a n 6 = _ from (if_neg (by decide)).trans rfl).symm, rfl⟩
              · by_cases q7x : x = 7
                · subst q7x
                  refine e_tsw rfl (by decide) rfl ?_
                  refine e_aload rfl rfl ?_
                  refine e_getR rfl hM.1 (show R 290 1 = some 291 from (hM.2 0 _ rfl).2) ?_
                  refine e_ipush rfl ?_
                  refine e_ialv (t := 8) (n := 14) rfl (show sh[291]? = some (20, 14) from (hM.2 0 _ rfl).1) rfl (by decide) (by decide) (hv.n hw (j := 8) (by decide)) ?_
                  exact Eg.ret rfl (by decide) rfl ⟨congrArg (fun q => some (Value.int q)) (show aCount v rc a n 7 = _ from (if_neg (by decide)).trans rfl).symm, rfl⟩
                · by_cases q8x : x = 8
                  · subst q8x
                    refine e_tsw rfl (by decide) rfl ?_
                    refine e_aload rfl rfl ?_
                    refine Eg.p1 rfl (by decide) (by decide) rfl (Nat.le_of_ble_eq_true rfl) (xrcv_of rfl hM.1 rfl) ((ms_lasting hM hv hw).mono (by decide)) ?_
                    exact Eg.ret rfl (by decide) rfl ⟨congrArg (fun q => some (Value.int q)) (show aCount v rc a n 8 = _ from (if_neg (by decide)).trans rfl).symm, rfl⟩
                  · by_cases q9x : x = 9
                    · subst q9x
                      refine e_tsw rfl (by decide) rfl ?_
                      refine e_aload rfl rfl ?_
                      refine e_getIv rfl hM.1 h71x ?_
                      exact Eg.ret rfl (by decide) rfl ⟨congrArg (fun q => some (Value.int q)) (show aCount v rc a n 9 = _ from (if_neg (by decide)).trans rfl).symm, rfl⟩
                    · by_cases q10x : x = 10
                      · subst q10x
                        refine e_tsw rfl (by decide) rfl ?_
                        refine e_aload rfl rfl ?_
                        refine e_getR rfl hM.1 (show R 290 1 = some 291 from (hM.2 0 _ rfl).2) ?_
                        refine e_ipush rfl ?_
                        refine e_ialv (t := 10) (n := 14) rfl (show sh[291]? = some (20, 14) from (hM.2 0 _ rfl).1) rfl (by decide) (by decide) (hv.n hw (j := 10) (by decide)) ?_
                        exact Eg.ret rfl (by decide) rfl ⟨congrArg (fun q => some (Value.int q)) (show aCount v rc a n 10 = _ from (if_neg (by decide)).trans rfl).symm, rfl⟩
                      · by_cases q11x : x = 11
                        · subst q11x
                          refine e_tsw rfl (by decide) rfl ?_
                          refine e_aload rfl rfl ?_
                          refine e_getR rfl hM.1 (show R 290 1 = some 291 from (hM.2 0 _ rfl).2) ?_
                          refine e_ipush rfl ?_
                          refine e_ialv (t := 11) (n := 14) rfl (show sh[291]? = some (20, 14) from (hM.2 0 _ rfl).1) rfl (by decide) (by decide) (hv.n hw (j := 11) (by decide)) ?_
                          exact Eg.ret rfl (by decide) rfl ⟨congrArg (fun q => some (Value.int q)) (show aCount v rc a n 11 = _ from (if_neg (by decide)).trans rfl).symm, rfl⟩
                        · by_cases q12x : x = 12
                          · subst q12x
                            refine e_tsw rfl (by decide) rfl ?_
                            refine e_aload rfl rfl ?_
                            refine e_getR rfl hM.1 (show R 290 1 = some 291 from (hM.2 0 _ rfl).2) ?_
                            refine e_ipush rfl ?_
                            refine e_ialv (t := 12) (n := 14) rfl (show sh[291]? = some (20, 14) from (hM.2 0 _ rfl).1) rfl (by decide) (by decide) (hv.n hw (j := 12) (by decide)) ?_
                            exact Eg.ret rfl (by decide) rfl ⟨congrArg (fun q => some (Value.int q)) (show aCount v rc a n 12 = _ from (if_neg (by decide)).trans rfl).symm, rfl⟩
                          · by_cases q13x : x = 13
                            · subst q13x
                              refine e_tsw rfl (by decide) rfl ?_
                              refine e_aload rfl rfl ?_
                              refine Eg.p1 rfl (by decide) (by decide) rfl (Nat.le_of_ble_eq_true rfl) (xrcv_of rfl hM.1 rfl) ((ms_dryAll hM hv hw).mono (by decide)) ?_
                              exact Eg.ret rfl (by decide) rfl ⟨congrArg (fun q => some (Value.int q)) (show aCount v rc a n 13 = _ from (if_neg (by decide)).trans rfl).symm, rfl⟩
                            · by_cases q14x : x = 14
                              · subst q14x
                                refine e_tsw rfl (by decide) rfl ?_
                                refine e_aload rfl rfl ?_
                                refine e_getR rfl hM.1 (show R 290 1 = some 291 from (hM.2 0 _ rfl).2) ?_
                                refine e_ipush rfl ?_
                                refine e_ialv (t := 5) (n := 14) rfl (show sh[291]? = some (20, 14) from (hM.2 0 _ rfl).1) rfl (by decide) (by decide) (hv.n hw (j := 5) (by decide)) ?_
                                exact Eg.ret rfl (by decide) rfl ⟨congrArg (fun q => some (Value.int q)) (show aCount v rc a n 14 = _ from (if_neg (by decide)).trans rfl).symm, rfl⟩
                              · by_cases q15x : x = 15
                                · subst q15x
                                  refine e_tsw rfl (by decide) rfl ?_
                                  refine e_aload rfl rfl ?_
                                  refine Eg.p1 rfl (by decide) (by decide) rfl (Nat.le_of_ble_eq_true rfl) (xrcv_of rfl hM.1 rfl) ((ms_isSeaV hM hv hw).mono (by decide)) ?_
                                  refine e_ifeq_b rfl (fun b194x => ?_) (fun b194x => ?_)
                                  · replace b194x := yn_0.mp b194x
                                    refine e_ipush rfl ?_
                                    exact Eg.ret rfl (by decide) rfl ⟨congrArg (fun q => some (Value.int q)) (show aCount v rc a n 15 = _ from (if_neg (by decide)).trans (if_pos (Decidable.not_not.mp b194x))).symm, rfl⟩
                                  · replace b194x := yn_n0.mp b194x
                                    refine e_aload rfl rfl ?_
                                    refine e_getR rfl hM.1 (show R 290 1 = some 291 from (hM.2 0 _ rfl).2) ?_
                                    refine e_ipush rfl ?_
                                    refine e_ialv (t := 6) (n := 14) rfl (show sh[291]? = some (20, 14) from (hM.2 0 _ rfl).1) rfl (by decide) (by decide) (hv.n hw (j := 6) (by decide)) ?_
                                    refine e_goto rfl ?_
                                    exact Eg.ret rfl (by decide) rfl ⟨congrArg (fun q => some (Value.int q)) (show aCount v rc a n 15 = _ from (if_neg (by decide)).trans (if_neg b194x)).symm, rfl⟩
                                · by_cases q16x : x = 16
                                  · subst q16x
                                    refine e_tsw rfl (by decide) rfl ?_
                                    refine e_aload rfl rfl ?_
                                    refine e_getR rfl hM.1 (show R 290 1 = some 291 from (hM.2 0 _ rfl).2) ?_
                                    refine e_ipush rfl ?_
                                    refine e_ialv (t := 13) (n := 14) rfl (show sh[291]? = some (20, 14) from (hM.2 0 _ rfl).1) rfl (by decide) (by decide) (hv 1 13 (by decide)) ?_
                                    exact Eg.ret rfl (by decide) rfl ⟨congrArg (fun q => some (Value.int q)) (show aCount v rc a n 16 = _ from (if_neg (by decide)).trans rfl).symm, rfl⟩
                                  · by_cases q17x : x = 17
                                    · subst q17x
                                      refine e_tsw rfl (by decide) rfl ?_
                                      refine e_aload rfl rfl ?_
                                      refine e_getIv rfl hM.1 h47x ?_
                                      exact Eg.ret rfl (by decide) rfl ⟨congrArg (fun q => some (Value.int q)) (show aCount v rc a n 17 = _ from (if_neg (by decide)).trans rfl).symm, rfl⟩
                                    · refine e_tswd rfl (sw_out (n := 18) (by decide) (fun t ht e => by match t, ht with | 0, _ => exact q0x e | 1, _ => exact q1x e | 2, _ => exact q2x e | 3, _ => exact q3x e | 4, _ => exact q4x e | 5, _ => exact q5x e | 6, _ => exact q6x e | 7, _ => exact q7x e | 8, _ => exact q8x e | 9, _ => exact q9x e | 10, _ => exact q10x e | 11, _ => exact q11x e | 12, _ => exact q12x e | 13, _ => exact q13x e | 14, _ => exact q14x e | 15, _ => exact q15x e | 16, _ => exact q16x e | 17, _ => exact q17x e | t + 18, hh => exact absurd hh (by omega))) ?_
                                      refine e_ipush rfl ?_
                                      exact Eg.ret rfl (by decide) rfl ⟨congrArg (fun q => some (Value.int q)) (aCount_out (fun t ht e => by match t, ht with | 0, _ => exact q0x e | 1, _ => exact q1x e | 2, _ => exact q2x e | 3, _ => exact q3x e | 4, _ => exact q4x e | 5, _ => exact q5x e | 6, _ => exact q6x e | 7, _ => exact q7x e | 8, _ => exact q8x e | 9, _ => exact q9x e | 10, _ => exact q10x e | 11, _ => exact q11x e | 12, _ => exact q12x e | 13, _ => exact q13x e | 14, _ => exact q14x e | 15, _ => exact q15x e | 16, _ => exact q16x e | 17, _ => exact q17x e | t + 18, hh => exact absurd hh (by omega))).symm, rfl⟩
end CT
