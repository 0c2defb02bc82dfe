/-! A RULE read, the other side: a clause -/
section MU11x
variable {X : xX} {h : xH} {sh : List (Nat × Nat)} {I : Nat → Nat → Int32} {L : Nat → Nat → Int64} {R : Nat → Nat → Option Nat} {B : Nat → Nat} {n ri p : Nat} {st : rS}
variable {cl : List (Nat × Nat × Nat)}
theorem ms_clause (hM : MW sh R) (hr : Mst I B n ri p st) (h53x : I 290 53 = nI 0) (hc : Mcl I ri cl) (hi : cl.length ≤ 12) : Ec X 12 225 [.ref 290, .int (nI cl.length)] (sh, I, L, R) (fun r h' => r = none ∧ ∃ J : Nat → Nat → Int32, h' = (sh, J, L, R) ∧ MqC I J ri ∧ (((rCl B n cl.length st).1 = 0 ∧ (∃ p', Mst J B n ri p' (rCl B n cl.length st).2.1) ∧ J 290 53 = nI 0 ∧ Mcl J ri (cl ++ [clE B n cl.length st])) ∨ Msx J B n ri (rCl B n cl.length st).1)) := by
  obtain ⟨hsn, hn, hps, htk⟩ := hr.le
  have hri := hr.2.2.2.2.2.2.2.1.2.1
  have nl := nxt_le (B := B) (n := n) (p := st.1) hsn
  have w7x : wdH B n st.1 = 7 ↔ wIs B n st.1 7 = true := wdH_iff (w := 7) (by decide)
  have w9x : wdH B n st.1 = 9 ↔ wIs B n st.1 9 = true := wdH_iff (w := 9) (by decide)
  refine Ec.of (Nat.le_of_ble_eq_true rfl) ?_
  refine e_aload rfl rfl ?_
  refine Eg.c1 rfl (by decide) (by decide) rfl (Nat.le_of_ble_eq_true rfl) (xrcv_of rfl hM.1 rfl) ((ms_blS hM hr).mono (by decide)) (fun r1x h1x hq => ?_)
  obtain ⟨rfl, K1x, rfl, c1x, q1x⟩ := hq
  refine e_aload rfl rfl ?_
  refine e_getIv rfl hM.1 c1x.1.2.1 ?_
  refine e_istore rfl ?_
  refine e_aload rfl rfl ?_
  refine e_text rfl ?_
  refine Eg.p2 rfl (by decide) (by decide) rfl (Nat.le_of_ble_eq_true rfl) (xrcv_of rfl hM.1 rfl) ((ms_stood hM c1x.1 (by omega) (j := 8) (w := 7) (by decide) (by decide) rfl).mono (by decide)) ?_
  by_cases h7x : wIs B n st.1 7 = true
  · have e7x := w7x.mpr h7x
    rw [yn_t h7x]
    refine e_istore rfl ?_
    refine e_iload rfl rfl ?_
    refine e_ifne_t rfl (by decide) ?_
    refine e_iload rfl rfl ?_
    refine e_ipush rfl ?_
    refine e_cne_b rfl (fun b41x => ?_) (fun b41x => ?_)
    · have b41x : ¬ cl.length = 12 := fun e => b41x (by rw [e]; rfl)
      refine e_aload rfl rfl ?_
      refine e_dupr rfl ?_
      refine e_getIv rfl hM.1 c1x.1.2.1 ?_
      refine e_iload rfl rfl ?_
      refine e_ifeq_f rfl (by decide) ?_
      refine e_ipush rfl ?_
      refine e_goto rfl ?_
      refine e_iadd rfl ?_
      rw [show (nI st.1) + 2 = nI (st.1 + 2) from nI_add _ 2]
      refine e_putIJ rfl hM.1 (fun J21x g21x f21x => ?_)
      have wn := wIs_nxt (w := 7) (by decide) h7x
      have wl := wIs_lt (w := 7) (by decide) h7x
      have wn1x : (st.1 + 2) ≤ n := wn.1
      have wn2x : skp B n (st.1 + 2) = nxt B n st.1 := wn.2
      have sk2x := (skp_le (B := B) (n := n) (p := (st.1 + 2))).1
      have mf : MF K1x J21x := fun i k a => f21x i k (by omega)
      have m2x : Mr J21x B n (st.1 + 2) 0 := c1x.1.fr mf g21x ((f21x 290 49 (by decide)).trans c1x.1.2.2)
      have c2x : Mst J21x B n ri (st.1 + 2) (goN B n st) := c1x.mv m2x wn1x wn2x nl.1 mf
      refine e_ipush rfl ?_
      refine e_aload rfl rfl ?_
      refine e_getIv rfl hM.1 c2x.2.2.2.2.2.2.2.1.1 ?_
      refine e_imul rfl ?_
      rw [show 12 * (nI ri) = nI (12 * ri) from nI_times 12 ri]
      refine e_iload rfl rfl ?_
      refine e_iadd rfl ?_
      rw [show (nI (12 * ri)) + (nI cl.length) = nI (12 * ri + cl.length) from nI_add _ _]
      refine e_istore rfl ?_
      refine e_aload rfl rfl ?_
      refine e_getR rfl hM.1 (show R 290 66 = some 345 from (hM.2 54 _ rfl).2) ?_
      refine e_iload rfl rfl ?_
      refine e_iload rfl rfl ?_
      refine e_zasJ (t := 12 * ri + cl.length) (n := 72) rfl (show sh[345]? = some (22, 72) from (hM.2 54 _ rfl).1) rfl (by omega) (by decide) (by decide) (fun J22x g22x f22x => ?_)
      have c22x := c2x.fr (J := J22x) (fun i k q => f22x i k (by omega))
      refine e_aload rfl rfl ?_
      refine e_getR rfl hM.1 (show R 290 62 = some 341 from (hM.2 50 _ rfl).2) ?_
      refine e_iload rfl rfl ?_
      refine e_aload rfl rfl ?_
      refine e_getIv rfl hM.1 c22x.2.2.2.2.2.1 ?_
      refine e_iasJ (t := 12 * ri + cl.length) (n := 72) rfl (show sh[341]? = some (20, 72) from (hM.2 50 _ rfl).1) rfl (by omega) (by decide) (fun J23x g23x f23x => ?_)
      have c23x := c22x.fr (J := J23x) (fun i k q => f23x i k (by omega))
      refine e_iload rfl rfl ?_
      refine e_ifeq_f rfl (by decide) ?_
      refine e_aload rfl rfl ?_
      refine Eg.c1 rfl (by decide) (by decide) rfl (Nat.le_of_ble_eq_true rfl) (xrcv_of rfl hM.1 rfl) ((ms_sum hM c23x).mono (by decide)) (fun r1x h1x hq => ?_)
      obtain ⟨rfl, K5x, rfl, q5x, hz5x⟩ := hq
      rcases hz5x with ⟨e5x, c5x⟩ | v5x
      · have e5' := e5x
        refine e_aload rfl rfl ?_
        refine e_getR rfl hM.1 (show R 290 63 = some 342 from (hM.2 51 _ rfl).2) ?_
        refine e_iload rfl rfl ?_
        refine e_aload rfl rfl ?_
        refine e_getIv rfl hM.1 c5x.2.2.2.2.2.1 ?_
        refine e_iasJ (t := 12 * ri + cl.length) (n := 72) rfl (show sh[342]? = some (20, 72) from (hM.2 51 _ rfl).1) rfl (by omega) (by decide) (fun J24x g24x f24x => ?_)
        have c24x := c5x.fr (J := J24x) (fun i k q => f24x i k (by omega))
        refine e_iload rfl rfl ?_
        refine e_ifeq_f rfl (by decide) ?_
        refine e_aload rfl rfl ?_
        refine e_getIv rfl hM.1 c24x.1.2.2 ?_
        refine e_ifne_f rfl rfl ?_
        refine e_aload rfl rfl ?_
        refine e_text rfl ?_
        refine Eg.c2 rfl (by decide) (by decide) rfl (Nat.le_of_ble_eq_true rfl) (xrcv_of rfl hM.1 rfl) ((ms_takes hM c24x).mono (by decide)) (fun r1x h1x hq => ?_)
        obtain ⟨rfl, K7x, rfl, q7x, ta, tb⟩ := hq
        by_cases h8x : wIs B n (rSum B n (goN B n st)).2.1 8 = true
        · obtain ⟨p8x, c7x⟩ := ta h8x
          have we8x : wdH B n (rSum B n (goN B n st)).2.1 = 8 := (wdH_iff (w := 8) (by decide)).mpr h8x
          rw [yn_t h8x]
          refine e_ifeq_f rfl (by decide) ?_
          refine e_aload rfl rfl ?_
          refine Eg.c1 rfl (by decide) (by decide) rfl (Nat.le_of_ble_eq_true rfl) (xrcv_of rfl hM.1 rfl) ((ms_test hM c7x (((q7x 290 53 (by omega) (by omega)).trans ((f24x 290 53 (by omega)).trans ((q5x 290 53 (by omega) (by omega)).trans ((f23x 290 53 (by omega)).trans ((f22x 290 53 (by omega)).trans ((f21x 290 53 (by omega)).trans ((q1x 290 53 (by omega) (by omega)).trans h53x)))))))) (by have a1x := (rSum_G hn (tok_nxt htk) e5x).le; have a2x : nxt B n st.1 ≤ (rSum B n (goN B n st)).2.1 := a1x; have a3x := (nxt_le (B := B) (n := n) (p := (rSum B n (goN B n st)).2.1) c5x.le.1).1; show 2 ≤ nxt B n (rSum B n (goN B n st)).2.1; omega)).mono (by decide)) (fun r1x h1x hq => ?_)
          obtain ⟨rfl, K8x, rfl, q8x, hz8x⟩ := hq
          rcases hz8x with ⟨e8x, c8x, y8x⟩ | v8x
          · have e8' := e8x
            refine e_aload rfl rfl ?_
            refine e_getR rfl hM.1 (show R 290 64 = some 343 from (hM.2 52 _ rfl).2) ?_
            refine e_iload rfl rfl ?_
            refine e_aload rfl rfl ?_
            refine e_getIv rfl hM.1 c8x.2.2.2.2.2.1 ?_
            refine e_iasJ (t := 12 * ri + cl.length) (n := 72) rfl (show sh[343]? = some (20, 72) from (hM.2 52 _ rfl).1) rfl (by omega) (by decide) (fun J25x g25x f25x => ?_)
            have c25x := c8x.fr (J := J25x) (fun i k q => f25x i k (by omega))
            have qf : MqC I J25x ri := fun i k a b c d => ((f25x i k (by omega)).trans ((q8x i k (by omega) (by omega) (by omega)).trans ((q7x i k (by omega) (by omega)).trans ((f24x i k (by omega)).trans ((q5x i k (by omega) (by omega)).trans ((f23x i k (by omega)).trans ((f22x i k (by omega)).trans ((f21x i k (by omega)).trans (q1x i k (by omega) (by omega))))))))))
            have eD : rCl B n cl.length st = (0, (rTest B n 10 (goN B n (rSum B n (goN B n st)).2)).2, (rSum B n (goN B n st)).2.2.2.length) := by unfold rCl; rw [if_neg (fun q => q (Or.inl e7x)), if_neg (by omega), if_pos e7x, if_neg (fun q => q e5x), if_pos we8x]; exact Prod.ext e8x rfl
            refine Eg.ret rfl (by decide) rfl ⟨rfl, J25x, rfl, qf, Or.inl ⟨by rw [eD], ⟨_, by rw [eD]; exact c25x⟩, ((f25x 290 53 (by omega)).trans y8x), ?_⟩⟩
            unfold clE; rw [eD]
            refine hc.snoc (fun i k h1x h2x => ((f25x i k (by omega)).trans ((q8x i k (by omega) (by omega) (by omega)).trans ((q7x i k (by omega) (by omega)).trans ((f24x i k (by omega)).trans ((q5x i k (by omega) (by omega)).trans ((f23x i k (by omega)).trans ((f22x i k (by omega)).trans ((f21x i k (by omega)).trans (q1x i k (by omega) (by omega))))))))))) ?_ ?_ ?_ ?_
            · exact ((f25x 341 _ (by omega)).trans ((q8x 341 _ (by omega) (by omega) (by omega)).trans ((q7x 341 _ (by omega) (by omega)).trans ((f24x 341 _ (by omega)).trans ((q5x 341 _ (by omega) (by omega)).trans g23x)))))
            · exact ((f25x 342 _ (by omega)).trans ((q8x 342 _ (by omega) (by omega) (by omega)).trans ((q7x 342 _ (by omega) (by omega)).trans g24x)))
            · exact g25x
            · exact (((f25x 345 _ (by omega)).trans ((q8x 345 _ (by omega) (by omega) (by omega)).trans ((q7x 345 _ (by omega) (by omega)).trans ((f24x 345 _ (by omega)).trans ((q5x 345 _ (by omega) (by omega)).trans ((f23x 345 _ (by omega)).trans g22x))))))).trans (yn_t (show st.2.2.length < (rSum B n (goN B n st)).2.2.2.length from (rSum_G hn (tok_nxt htk) e5x).grow)).symm
          · have z8x := v8x.1
            refine e_aload rfl rfl ?_
            refine e_getR rfl hM.1 (show R 290 64 = some 343 from (hM.2 52 _ rfl).2) ?_
            refine e_iload rfl rfl ?_
            refine e_aload rfl rfl ?_
            refine e_getIv rfl hM.1 (rfl : K8x 290 52 = K8x 290 52) ?_
            refine e_iasJ (t := 12 * ri + cl.length) (n := 72) rfl (show sh[343]? = some (20, 72) from (hM.2 52 _ rfl).1) rfl (by omega) (by decide) (fun J26x g26x f26x => ?_)
            have v26x := v8x.fr (J := J26x) (fun i k q => f26x i k (by omega))
            have qf : MqC I J26x ri := fun i k a b c d => ((f26x i k (by omega)).trans ((q8x i k (by omega) (by omega) (by omega)).trans ((q7x i k (by omega) (by omega)).trans ((f24x i k (by omega)).trans ((q5x i k (by omega) (by omega)).trans ((f23x i k (by omega)).trans ((f22x i k (by omega)).trans ((f21x i k (by omega)).trans (q1x i k (by omega) (by omega))))))))))
            have eD : (rCl B n cl.length st).1 = (rTest B n 10 (goN B n (rSum B n (goN B n st)).2)).1 := by unfold rCl; rw [if_neg (fun q => q (Or.inl e7x)), if_neg (by omega), if_pos e7x, if_neg (fun q => q e5x), if_pos we8x]
            exact Eg.ret rfl (by decide) rfl ⟨rfl, J26x, rfl, qf, Or.inr (by rw [eD]; exact v26x)⟩
        · have c7x := tb h8x
          have we8x : ¬ wdH B n (rSum B n (goN B n st)).2.1 = 8 := fun e => h8x ((wdH_iff (w := 8) (by decide)).mp e)
          rw [yn_f h8x]
          refine e_ifeq_t rfl rfl ?_
          refine e_aload rfl rfl ?_
          refine e_getR rfl hM.1 (show R 290 64 = some 343 from (hM.2 52 _ rfl).2) ?_
          refine e_iload rfl rfl ?_
          refine e_aload rfl rfl ?_
          refine e_getIv rfl hM.1 c7x.2.2.2.2.2.1 ?_
          refine e_iasJ (t := 12 * ri + cl.length) (n := 72) rfl (show sh[343]? = some (20, 72) from (hM.2 52 _ rfl).1) rfl (by omega) (by decide) (fun J27x g27x f27x => ?_)
          have c27x := c7x.fr (J := J27x) (fun i k q => f27x i k (by omega))
          have qf : MqC I J27x ri := fun i k a b c d => ((f27x i k (by omega)).trans ((q7x i k (by omega) (by omega)).trans ((f24x i k (by omega)).trans ((q5x i k (by omega) (by omega)).trans ((f23x i k (by omega)).trans ((f22x i k (by omega)).trans ((f21x i k (by omega)).trans (q1x i k (by omega) (by omega)))))))))
          have eD : rCl B n cl.length st = (0, (rSum B n (goN B n st)).2, (rSum B n (goN B n st)).2.2.2.length) := by unfold rCl; rw [if_neg (fun q => q (Or.inl e7x)), if_neg (by omega), if_pos e7x, if_neg (fun q => q e5x), if_neg we8x]
          refine Eg.ret rfl (by decide) rfl ⟨rfl, J27x, rfl, qf, Or.inl ⟨by rw [eD], ⟨_, by rw [eD]; exact c27x⟩, ((f27x 290 53 (by omega)).trans ((q7x 290 53 (by omega) (by omega)).trans ((f24x 290 53 (by omega)).trans ((q5x 290 53 (by omega) (by omega)).trans ((f23x 290 53 (by omega)).trans ((f22x 290 53 (by omega)).trans ((f21x 290 53 (by omega)).trans ((q1x 290 53 (by omega) (by omega)).trans h53x)))))))), ?_⟩⟩
          unfold clE; rw [eD]
          refine hc.snoc (fun i k h1x h2x => ((f27x i k (by omega)).trans ((q7x i k (by omega) (by omega)).trans ((f24x i k (by omega)).trans ((q5x i k (by omega) (by omega)).trans ((f23x i k (by omega)).trans ((f22x i k (by omega)).trans ((f21x i k (by omega)).trans (q1x i k (by omega) (by omega)))))))))) ?_ ?_ ?_ ?_
          · exact ((f27x 341 _ (by omega)).trans ((q7x 341 _ (by omega) (by omega)).trans ((f24x 341 _ (by omega)).trans ((q5x 341 _ (by omega) (by omega)).trans g23x))))
          · exact ((f27x 342 _ (by omega)).trans ((q7x 342 _ (by omega) (by omega)).trans g24x))
          · exact g27x
          · exact (((f27x 345 _ (by omega)).trans ((q7x 345 _ (by omega) (by omega)).trans ((f24x 345 _ (by omega)).trans ((q5x 345 _ (by omega) (by omega)).trans ((f23x 345 _ (by omega)).trans g22x)))))).trans (yn_t (show st.2.2.length < (rSum B n (goN B n st)).2.2.2.length from (rSum_G hn (tok_nxt htk) e5x).grow)).symm
      · have z5x := v5x.1
        refine e_aload rfl rfl ?_
        refine e_getR rfl hM.1 (show R 290 63 = some 342 from (hM.2 51 _ rfl).2) ?_
        refine e_iload rfl rfl ?_
        refine e_aload rfl rfl ?_
        refine e_getIv rfl hM.1 (rfl : K5x 290 52 = K5x 290 52) ?_
        refine e_iasJ (t := 12 * ri + cl.length) (n := 72) rfl (show sh[342]? = some (20, 72) from (hM.2 51 _ rfl).1) rfl (by omega) (by decide) (fun J28x g28x f28x => ?_)
        have v28x := v5x.fr (J := J28x) (fun i k q => f28x i k (by omega))
        refine e_iload rfl rfl ?_
        refine e_ifeq_f rfl (by decide) ?_
        refine e_aload rfl rfl ?_
        obtain ⟨-, ⟨pw, -, mw⟩, -⟩ := id v28x
        refine e_getIv rfl hM.1 mw.2.2 ?_
        refine e_ifne_t rfl v28x.1 ?_
        refine e_aload rfl rfl ?_
        refine e_getR rfl hM.1 (show R 290 64 = some 343 from (hM.2 52 _ rfl).2) ?_
        refine e_iload rfl rfl ?_
        refine e_aload rfl rfl ?_
        refine e_getIv rfl hM.1 (rfl : J28x 290 52 = J28x 290 52) ?_
        refine e_iasJ (t := 12 * ri + cl.length) (n := 72) rfl (show sh[343]? = some (20, 72) from (hM.2 52 _ rfl).1) rfl (by omega) (by decide) (fun J29x g29x f29x => ?_)
        have v29x := v28x.fr (J := J29x) (fun i k q => f29x i k (by omega))
        have qf : MqC I J29x ri := fun i k a b c d => ((f29x i k (by omega)).trans ((f28x i k (by omega)).trans ((q5x i k (by omega) (by omega)).trans ((f23x i k (by omega)).trans ((f22x i k (by omega)).trans ((f21x i k (by omega)).trans (q1x i k (by omega) (by omega))))))))
        have eD : (rCl B n cl.length st).1 = (rSum B n (goN B n st)).1 := by unfold rCl; rw [if_neg (fun q => q (Or.inl e7x)), if_neg (by omega), if_pos e7x, if_pos z5x]
        exact Eg.ret rfl (by decide) rfl ⟨rfl, J29x, rfl, qf, Or.inr (by rw [eD]; exact v29x.toX)⟩
    · have b41x : cl.length = 12 := (nI_eq (b := 12) (by omega) (by decide)).mp b41x
      refine e_aload rfl rfl ?_
      refine e_ipush rfl ?_
      refine e_iload rfl rfl ?_
      refine Eg.c3 rfl (by decide) (by decide) rfl (Nat.le_of_ble_eq_true rfl) (xrcv_of rfl hM.1 rfl) ((ms_fails hM c1x.1 (k := 4) (q := st.1)).mono (by decide)) (fun r1x h1x hq => ?_)
      obtain ⟨rfl, KF, rfl, b1x, b2x⟩ := hq
      have eD : (rCl B n cl.length st).1 = fl 0 st.1 4 := by unfold rCl; rw [if_neg (fun q => q (Or.inl e7x)), if_pos (by omega)]
      exact Eg.ret rfl (by decide) rfl ⟨rfl, KF, rfl, fun i k a b c d => (b2x i k (by omega)).trans (q1x i k (by omega) (by omega)), Or.inr (by rw [eD]; exact (c1x.wk (fl_ne (by omega)) b1x hsn (MqF.of b2x)).toX)⟩
  · have e7x : ¬ wdH B n st.1 = 7 := fun e => h7x (w7x.mp e)
    rw [yn_f h7x]
    refine e_istore rfl ?_
    refine e_iload rfl rfl ?_
    refine e_ifne_f rfl rfl ?_
    refine e_aload rfl rfl ?_
    refine e_text rfl ?_
    refine Eg.p2 rfl (by decide) (by decide) rfl (Nat.le_of_ble_eq_true rfl) (xrcv_of rfl hM.1 rfl) ((ms_stood hM c1x.1 (by omega) (j := 9) (w := 9) (by decide) (by decide) rfl).mono (by decide)) ?_
    by_cases h9x : wIs B n st.1 9 = true
    · have e9x := w9x.mpr h9x
      rw [yn_t h9x]
      refine e_ifne_t rfl (by decide) ?_
      refine e_iload rfl rfl ?_
      refine e_ipush rfl ?_
      refine e_cne_b rfl (fun b41x => ?_) (fun b41x => ?_)
      · have b41x : ¬ cl.length = 12 := fun e => b41x (by rw [e]; rfl)
        refine e_aload rfl rfl ?_
        refine e_dupr rfl ?_
        refine e_getIv rfl hM.1 c1x.1.2.1 ?_
        refine e_iload rfl rfl ?_
        refine e_ifeq_t rfl rfl ?_
        refine e_ipush rfl ?_
        refine e_iadd rfl ?_
        rw [show (nI st.1) + 4 = nI (st.1 + 4) from nI_add _ 4]
        refine e_putIJ rfl hM.1 (fun J30x g30x f30x => ?_)
        have wn := wIs_nxt (w := 9) (by decide) h9x
        have wl := wIs_lt (w := 9) (by decide) h9x
        have wn1x : (st.1 + 4) ≤ n := wn.1
        have wn2x : skp B n (st.1 + 4) = nxt B n st.1 := wn.2
        have sk2x := (skp_le (B := B) (n := n) (p := (st.1 + 4))).1
        have mf : MF K1x J30x := fun i k a => f30x i k (by omega)
        have m2x : Mr J30x B n (st.1 + 4) 0 := c1x.1.fr mf g30x ((f30x 290 49 (by decide)).trans c1x.1.2.2)
        have c2x : Mst J30x B n ri (st.1 + 4) (goN B n st) := c1x.mv m2x wn1x wn2x nl.1 mf
        refine e_ipush rfl ?_
        refine e_aload rfl rfl ?_
        refine e_getIv rfl hM.1 c2x.2.2.2.2.2.2.2.1.1 ?_
        refine e_imul rfl ?_
        rw [show 12 * (nI ri) = nI (12 * ri) from nI_times 12 ri]
        refine e_iload rfl rfl ?_
        refine e_iadd rfl ?_
        rw [show (nI (12 * ri)) + (nI cl.length) = nI (12 * ri + cl.length) from nI_add _ _]
        refine e_istore rfl ?_
        refine e_aload rfl rfl ?_
        refine e_getR rfl hM.1 (show R 290 66 = some 345 from (hM.2 54 _ rfl).2) ?_
        refine e_iload rfl rfl ?_
        refine e_iload rfl rfl ?_
        refine e_zasJ (t := 12 * ri + cl.length) (n := 72) rfl (show sh[345]? = some (22, 72) from (hM.2 54 _ rfl).1) rfl (by omega) (by decide) (by decide) (fun J31x g31x f31x => ?_)
        have c31x := c2x.fr (J := J31x) (fun i k q => f31x i k (by omega))
        refine e_aload rfl rfl ?_
        refine e_getR rfl hM.1 (show R 290 62 = some 341 from (hM.2 50 _ rfl).2) ?_
        refine e_iload rfl rfl ?_
        refine e_aload rfl rfl ?_
        refine e_getIv rfl hM.1 c31x.2.2.2.2.2.1 ?_
        refine e_iasJ (t := 12 * ri + cl.length) (n := 72) rfl (show sh[341]? = some (20, 72) from (hM.2 50 _ rfl).1) rfl (by omega) (by decide) (fun J32x g32x f32x => ?_)
        have c32x := c31x.fr (J := J32x) (fun i k q => f32x i k (by omega))
        refine e_iload rfl rfl ?_
        refine e_ifeq_t rfl rfl ?_
        refine e_aload rfl rfl ?_
        refine e_getR rfl hM.1 (show R 290 63 = some 342 from (hM.2 51 _ rfl).2) ?_
        refine e_iload rfl rfl ?_
        refine e_aload rfl rfl ?_
        refine e_getIv rfl hM.1 c32x.2.2.2.2.2.1 ?_
        refine e_iasJ (t := 12 * ri + cl.length) (n := 72) rfl (show sh[342]? = some (20, 72) from (hM.2 51 _ rfl).1) rfl (by omega) (by decide) (fun J33x g33x f33x => ?_)
        have c33x := c32x.fr (J := J33x) (fun i k q => f33x i k (by omega))
        refine e_iload rfl rfl ?_
        refine e_ifeq_t rfl rfl ?_
        refine e_aload rfl rfl ?_
        refine Eg.c1 rfl (by decide) (by decide) rfl (Nat.le_of_ble_eq_true rfl) (xrcv_of rfl hM.1 rfl) ((ms_test hM c33x (((f33x 290 53 (by omega)).trans ((f32x 290 53 (by omega)).trans ((f31x 290 53 (by omega)).trans ((f30x 290 53 (by omega)).trans ((q1x 290 53 (by omega) (by omega)).trans h53x)))))) (by show 2 ≤ nxt B n st.1; omega)).mono (by decide)) (fun r1x h1x hq => ?_)
        obtain ⟨rfl, K6x, rfl, q6x, hz6x⟩ := hq
        rcases hz6x with ⟨e6x, c6x, y6x⟩ | v6x
        · have e6' := e6x
          refine e_aload rfl rfl ?_
          refine e_getR rfl hM.1 (show R 290 64 = some 343 from (hM.2 52 _ rfl).2) ?_
          refine e_iload rfl rfl ?_
          refine e_aload rfl rfl ?_
          refine e_getIv rfl hM.1 c6x.2.2.2.2.2.1 ?_
          refine e_iasJ (t := 12 * ri + cl.length) (n := 72) rfl (show sh[343]? = some (20, 72) from (hM.2 52 _ rfl).1) rfl (by omega) (by decide) (fun J34x g34x f34x => ?_)
          have c34x := c6x.fr (J := J34x) (fun i k q => f34x i k (by omega))
          have qf : MqC I J34x ri := fun i k a b c d => ((f34x i k (by omega)).trans ((q6x i k (by omega) (by omega) (by omega)).trans ((f33x i k (by omega)).trans ((f32x i k (by omega)).trans ((f31x i k (by omega)).trans ((f30x i k (by omega)).trans (q1x i k (by omega) (by omega))))))))
          have eD : rCl B n cl.length st = (0, (rTest B n 10 (goN B n st)).2, (goN B n st).2.2.length) := by unfold rCl; rw [if_neg (fun q => q (Or.inr e9x)), if_neg (by omega), if_neg e7x]; exact Prod.ext e6x rfl
          refine Eg.ret rfl (by decide) rfl ⟨rfl, J34x, rfl, qf, Or.inl ⟨by rw [eD], ⟨_, by rw [eD]; exact c34x⟩, ((f34x 290 53 (by omega)).trans y6x), ?_⟩⟩
          unfold clE; rw [eD]
          refine hc.snoc (fun i k h1x h2x => ((f34x i k (by omega)).trans ((q6x i k (by omega) (by omega) (by omega)).trans ((f33x i k (by omega)).trans ((f32x i k (by omega)).trans ((f31x i k (by omega)).trans ((f30x i k (by omega)).trans (q1x i k (by omega) (by omega))))))))) ?_ ?_ ?_ ?_
          · exact ((f34x 341 _ (by omega)).trans ((q6x 341 _ (by omega) (by omega) (by omega)).trans ((f33x 341 _ (by omega)).trans g32x)))
          · exact ((f34x 342 _ (by omega)).trans ((q6x 342 _ (by omega) (by omega) (by omega)).trans g33x))
          · exact g34x
          · exact (((f34x 345 _ (by omega)).trans ((q6x 345 _ (by omega) (by omega) (by omega)).trans ((f33x 345 _ (by omega)).trans ((f32x 345 _ (by omega)).trans g31x))))).trans (yn_f (Nat.lt_irrefl _)).symm
        · have z6x := v6x.1
          refine e_aload rfl rfl ?_
          refine e_getR rfl hM.1 (show R 290 64 = some 343 from (hM.2 52 _ rfl).2) ?_
          refine e_iload rfl rfl ?_
          refine e_aload rfl rfl ?_
          refine e_getIv rfl hM.1 (rfl : K6x 290 52 = K6x 290 52) ?_
          refine e_iasJ (t := 12 * ri + cl.length) (n := 72) rfl (show sh[343]? = some (20, 72) from (hM.2 52 _ rfl).1) rfl (by omega) (by decide) (fun J35x g35x f35x => ?_)
          have v35x := v6x.fr (J := J35x) (fun i k q => f35x i k (by omega))
          have qf : MqC I J35x ri := fun i k a b c d => ((f35x i k (by omega)).trans ((q6x i k (by omega) (by omega) (by omega)).trans ((f33x i k (by omega)).trans ((f32x i k (by omega)).trans ((f31x i k (by omega)).trans ((f30x i k (by omega)).trans (q1x i k (by omega) (by omega))))))))
          have eD : (rCl B n cl.length st).1 = (rTest B n 10 (goN B n st)).1 := by unfold rCl; rw [if_neg (fun q => q (Or.inr e9x)), if_neg (by omega), if_neg e7x]
          exact Eg.ret rfl (by decide) rfl ⟨rfl, J35x, rfl, qf, Or.inr (by rw [eD]; exact v35x)⟩
      · have b41x : cl.length = 12 := (nI_eq (b := 12) (by omega) (by decide)).mp b41x
        refine e_aload rfl rfl ?_
        refine e_ipush rfl ?_
        refine e_iload rfl rfl ?_
        refine Eg.c3 rfl (by decide) (by decide) rfl (Nat.le_of_ble_eq_true rfl) (xrcv_of rfl hM.1 rfl) ((ms_fails hM c1x.1 (k := 4) (q := st.1)).mono (by decide)) (fun r1x h1x hq => ?_)
        obtain ⟨rfl, KF, rfl, b1x, b2x⟩ := hq
        have eD : (rCl B n cl.length st).1 = fl 0 st.1 4 := by unfold rCl; rw [if_neg (fun q => q (Or.inr e9x)), if_pos (by omega)]
        exact Eg.ret rfl (by decide) rfl ⟨rfl, KF, rfl, fun i k a b c d => (b2x i k (by omega)).trans (q1x i k (by omega) (by omega)), Or.inr (by rw [eD]; exact (c1x.wk (fl_ne (by omega)) b1x hsn (MqF.of b2x)).toX)⟩
    · have e9x : ¬ wdH B n st.1 = 9 := fun e => h9x (w9x.mp e)
      rw [yn_f h9x]
      refine e_ifne_f rfl rfl ?_
      refine e_aload rfl rfl ?_
      refine e_ipush rfl ?_
      refine e_iload rfl rfl ?_
      refine Eg.c3 rfl (by decide) (by decide) rfl (Nat.le_of_ble_eq_true rfl) (xrcv_of rfl hM.1 rfl) ((ms_fails hM c1x.1 (k := 0) (q := st.1)).mono (by decide)) (fun r1x h1x hq => ?_)
      obtain ⟨rfl, KF, rfl, b1x, b2x⟩ := hq
      have eD : (rCl B n cl.length st).1 = fl 0 st.1 0 := by unfold rCl; rw [if_pos (fun q => q.elim e7x e9x)]
      exact Eg.ret rfl (by decide) rfl ⟨rfl, KF, rfl, fun i k a b c d => (b2x i k (by omega)).trans (q1x i k (by omega) (by omega)), Or.inr (by rw [eD]; exact (c1x.wk (fl_ne (by omega)) b1x hsn (MqF.of b2x)).toX)⟩
end MU11x
