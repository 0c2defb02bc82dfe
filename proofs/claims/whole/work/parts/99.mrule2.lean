/-! A RULE read, the other side: values -/
section MU2x
variable {X : xX} {h : xH} {sh : List (Nat × Nat)} {I : Nat → Nat → Int32} {L : Nat → Nat → Int64} {R : Nat → Nat → Option Nat} {B : Nat → Nat} {n ri p : Nat} {st : rS}
theorem mRes.of {J K : Nat → Nat → Int32} {D : Int32 × rS} (h : MqF I J ri) (g : mRes J K B n ri D) : mRes I K B n ri D := ⟨h.tr g.1, g.2⟩
theorem vIx_w2 {q w : Nat} (hw : w < 11) (h : wIs B n q (wvx.getD w 0) = true) (hm : ∀ t, t < w → ¬ wIs B n q (wvx.getD t 0) = true) : vIx B n q = w := by
  have hle := vIx_le (B := B) (n := n) (p := q)
  rcases Nat.lt_trichotomy (vIx B n q) w with a | a | a
  · exact absurd (vIx_lt (by omega)) (hm _ a)
  · exact a
  · exact absurd h (vIx_no a)
theorem wdH_dg {q : Nat} (h : ¬ dgM B n q = true) : ¬ tknd B n q = 2 := fun e => h (tknd_2.mp e)
theorem Mst.bl {J : Nat → Nat → Int32} (h : Mst I B n ri p st) (hj : Mr J B n (skp B n p) 0) (f : MF I J) : Mst J B n ri st.1 st := by
  have hl := h.le
  have := h.mv (q := st.1) (by rw [h.2.2.1] at hj; exact hj) hl.1 hl.2.2.2.2 (Nat.le_refl _) f
  exact this
theorem ms_val (hM : MW sh R) (hr : Mst I B n ri p st) : Ec X 6 204 [.ref 290] (sh, I, L, R) (fun r h' => r = none ∧ ∃ J : Nat → Nat → Int32, h' = (sh, J, L, R) ∧ mRes I J B n ri (rV B n st)) := by
  obtain ⟨hsn, hn, hps, htk⟩ := hr.le
  have hbd := hr.2.2.2.2.2.2.1
  have hm0x := hr.1
  have hpn := hr.2.1
  refine Ec.of (Nat.le_of_ble_eq_true rfl) ?_
  refine e_aload rfl rfl ?_
  refine Eg.c1 rfl (by decide) (by decide) rfl (Nat.le_of_ble_eq_true rfl) (xrcv_of rfl hM.1 rfl) ((ms_blanks hM hm0x (by omega)).mono (by decide)) (fun r1x h1x hq => ?_)
  obtain ⟨rfl, J, rfl, a1x, a2x⟩ := hq
  have c1x := hr.bl a1x a2x
  replace a1x := c1x.1
  refine e_aload rfl rfl ?_
  refine e_getIv rfl hM.1 a1x.2.1 ?_
  refine e_istore rfl ?_
  refine e_aload rfl rfl ?_
  refine Eg.p1 rfl (by decide) (by decide) rfl (Nat.le_of_ble_eq_true rfl) (xrcv_of rfl hM.1 rfl) ((ms_isDigit hM a1x (by omega)).mono (by decide)) ?_
  refine e_ifeq_b rfl (fun b13x => ?_) (fun b13x => ?_)
  · replace b13x := yn_0.mp b13x
    refine e_ipush rfl ?_
    refine e_istore rfl ?_
    refine Eg.pk [0, 1, 2] [2, 1, 0] rfl (by decide) ?_
    have k11x := vIx_le (B := B) (n := n) (p := st.1)
    have h56x : J 290 56 = nI 11 := c1x.2.2.2.2.2.2.2.1.2.2
    have rest : Eg X xTc 5 204 63 [(0, .ref 290), (1, .int (nI st.1)), (2, .int (nI (vIx B n st.1)))] [] (sh, J, L, R) (fun r h' => r = none ∧ ∃ J : Nat → Nat → Int32, h' = (sh, J, L, R) ∧ mRes I J B n ri (rV B n st)) := by
      refine e_iload rfl rfl ?_
      refine e_aload rfl rfl ?_
      refine e_getIv rfl hM.1 h56x ?_
      refine e_cne_b rfl (fun b68x => ?_) (fun b68x => ?_)
      · have hv : vIx B n st.1 < 11 := by have : ¬ vIx B n st.1 = 11 := fun e => b68x (by rw [e]); omega
        have wi := vIx_lt hv
        have wl := wvx_lt _ hv
        have wn := wIs_nxt wl wi
        obtain ⟨x1x, x2x, x3x⟩ := wtx_ok _ hv
        obtain ⟨y1x, y2x, y3x⟩ := txw_ok _ x1x x2x
        rw [x3x] at y2x
        have elen : nI (xlen.getD (wtx.getD (vIx B n st.1) 0) 0) = nI (wln (wvx.getD (vIx B n st.1) 0)) := by rw [y2x]
        refine e_aload rfl rfl ?_
        refine e_iload rfl rfl ?_
        refine Eg.c2 rfl (by decide) (by decide) rfl (Nat.le_of_ble_eq_true rfl) (xrcv_of rfl hM.1 rfl) ((ms_cnt hM (q := st.1) c1x (by omega)).mono (by decide)) (fun r1x h1x hq => ?_)
        obtain ⟨rfl, G, rfl, x5x, hgp, hz⟩ := hq
        have y5x := MqF.tr (MqF.of a2x) x5x
        rcases hz with ⟨z5x, c5x⟩ | ⟨z5x, v5x⟩
        · have z60x : ¬ 60 ≤ st.2.1 := Nat.not_le.mpr z5x
          refine e_aload rfl rfl ?_
          refine e_dupr rfl ?_
          refine e_getIv rfl hM.1 c5x.1.2.1 ?_
          refine e_iload rfl rfl ?_
          refine Eg.p1 rfl (by decide) (by decide) rfl (Nat.le_of_ble_eq_true rfl) (xrcv_ofs (Or.inl rfl)) ((ms_wordOf (w := vIx B n st.1) hv).mono (by decide)) ?_
          refine Eg.p1 rfl (by decide) (by decide) rfl (Nat.le_of_ble_eq_true rfl) (xrcv_oft rfl (by omega)) ((tx_len (j := wtx.getD (vIx B n st.1) 0) (by omega)).mono (by decide)) ?_
          rw [elen]
          refine e_iadd rfl ?_
          rw [show (nI st.1) + (nI (wln (wvx.getD (vIx B n st.1) 0))) = nI (st.1 + wln (wvx.getD (vIx B n st.1) 0)) from nI_add _ _]
          refine e_putIJ rfl hM.1 (fun J21x g21x f21x => ?_)
          have r9x : Mr J21x B n (st.1 + wln (wvx.getD (vIx B n st.1) 0)) 0 := c5x.1.fr (fun i k q => f21x i k (by omega)) g21x ((f21x 290 49 (by decide)).trans c5x.1.2.2)
          have nl := nxt_le (B := B) (n := n) (p := st.1) hsn
          have c9x : Mst J21x B n ri (st.1 + wln (wvx.getD (vIx B n st.1) 0)) (nxt B n st.1, st.2.1 + 1, st.2.2) := c5x.mv r9x wn.1 wn.2 nl.1 (fun i k q => f21x i k (by omega))
          have hbE : 2 * (st.2.2.length + 1) ≤ 2 * (st.2.1 + 1) + nxt B n st.1 := by omega
          refine e_aload rfl rfl ?_
          refine e_ipush rfl ?_
          refine e_iload rfl rfl ?_
          refine Eg.c3 rfl (by decide) (by decide) rfl (Nat.le_of_ble_eq_true rfl) (xrcv_of rfl hM.1 rfl) ((ms_entry hM c9x (e := (1, vIx B n st.1)) hbE).mono (by decide)) (fun r1x h1x hq => ?_)
          obtain ⟨rfl, T, rfl, ct, qt⟩ := hq
          have eD : rV B n st = (0, (nxt B n st.1, st.2.1 + 1, st.2.2 ++ [(1, vIx B n st.1)])) := by unfold rV; rw [if_neg (wdH_dg b13x), if_pos hv, if_neg z60x]
          exact Eg.ret rfl (by decide) rfl ⟨rfl, T, rfl, by rw [eD]; exact ⟨((y5x.tr (fun i k a b => f21x i k (by omega))).tr qt), Or.inl ⟨rfl, _, ct⟩⟩⟩
        · have eD : rV B n st = (fl 0 st.1 3, st) := by unfold rV; rw [if_neg (wdH_dg b13x), if_pos hv, if_pos (show 60 ≤ st.2.1 from z5x)]
          refine e_aload rfl rfl ?_
          refine e_dupr rfl ?_
          refine e_getIv rfl hM.1 (hgp.trans a1x.2.1) ?_
          refine e_iload rfl rfl ?_
          refine Eg.p1 rfl (by decide) (by decide) rfl (Nat.le_of_ble_eq_true rfl) (xrcv_ofs (Or.inl rfl)) ((ms_wordOf (w := vIx B n st.1) hv).mono (by decide)) ?_
          refine Eg.p1 rfl (by decide) (by decide) rfl (Nat.le_of_ble_eq_true rfl) (xrcv_oft rfl (by omega)) ((tx_len (j := wtx.getD (vIx B n st.1) 0) (by omega)).mono (by decide)) ?_
          rw [elen]
          refine e_iadd rfl ?_
          rw [show (nI st.1) + (nI (wln (wvx.getD (vIx B n st.1) 0))) = nI (st.1 + wln (wvx.getD (vIx B n st.1) 0)) from nI_add _ _]
          refine e_putIJ rfl hM.1 (fun J22x g22x f22x => ?_)
          obtain ⟨-, ⟨pg, -, rg⟩, -⟩ := id v5x
          have r9x := rg.fr (J := J22x) (p' := st.1 + wln (wvx.getD (vIx B n st.1) 0)) (fun i k q => f22x i k (by omega)) g22x ((f22x 290 49 (by decide)).trans rg.2.2)
          have w9x := v5x.mv r9x wn.1 (fun i k a b => f22x i k (by omega))
          refine e_aload rfl rfl ?_
          refine e_ipush rfl ?_
          refine e_iload rfl rfl ?_
          refine Eg.c3 rfl (by decide) (by decide) rfl (Nat.le_of_ble_eq_true rfl) (xrcv_of rfl hM.1 rfl) ((ms_entryW hM w9x).mono (by decide)) (fun r1x h1x hq => ?_)
          obtain ⟨rfl, rfl⟩ := hq
          exact Eg.ret rfl (by decide) rfl ⟨rfl, J22x, rfl, by rw [eD]; exact ⟨(y5x.tr (fun i k a b => f22x i k (by omega))), Or.inr w9x⟩⟩
      · have b68x : vIx B n st.1 = 11 := (nI_eq (b := 11) (by omega) (by decide)).mp b68x
        refine e_aload rfl rfl ?_
        refine e_ipush rfl ?_
        refine e_iload rfl rfl ?_
        refine Eg.c3 rfl (by decide) (by decide) rfl (Nat.le_of_ble_eq_true rfl) (xrcv_of rfl hM.1 rfl) ((ms_fails hM a1x (k := 0) (q := st.1)).mono (by decide)) (fun r1x h1x hq => ?_)
        obtain ⟨rfl, K, rfl, b1x, b2x⟩ := hq
        have eD : rV B n st = (fl 0 st.1 0, st) := by unfold rV; rw [if_neg (wdH_dg b13x), if_neg (by omega)]
        exact Eg.ret rfl (by decide) rfl ⟨rfl, K, rfl, by rw [eD]; exact ⟨(MqF.of a2x).tr (MqF.of b2x), Or.inr (c1x.wk (fl_ne (by omega)) b1x hsn (MqF.of b2x))⟩⟩
    refine up_ind (p := fun j => (∀ t, t < j → ¬ wIs B n st.1 (wvx.getD t 0) = true) → Eg X xTc 5 204 38 [(0, .ref 290), (1, .int (nI st.1)), (2, .int (nI j))] [] (sh, J, L, R) (fun r h' => r = none ∧ ∃ J : Nat → Nat → Int32, h' = (sh, J, L, R) ∧ mRes I J B n ri (rV B n st))) (n := 11) (j := 0) (fun j hj ih => ?_) ?_ (Nat.zero_le _) (fun t ht => absurd ht (by omega))
    · intro hm
      obtain ⟨x1x, x2x, x3x⟩ := wtx_ok j hj
      refine e_iload rfl rfl ?_
      refine e_aload rfl rfl ?_
      refine e_getIv rfl hM.1 h56x ?_
      refine e_cge_f rfl (nI_ge (b := 11) hj (by decide)) ?_
      refine e_aload rfl rfl ?_
      refine e_iload rfl rfl ?_
      refine Eg.p1 rfl (by decide) (by decide) rfl (Nat.le_of_ble_eq_true rfl) (xrcv_ofs (Or.inl rfl)) ((ms_wordOf (w := j) hj).mono (by decide)) ?_
      refine Eg.p2 rfl (by decide) (by decide) rfl (Nat.le_of_ble_eq_true rfl) (xrcv_of rfl hM.1 rfl) ((ms_stood hM a1x (by omega) (j := wtx.getD j 0) (w := wvx.getD j 0) x1x x2x x3x).mono (by decide)) ?_
      refine e_ifne_b rfl (fun b54x => ?_) (fun b54x => ?_)
      · replace b54x := yn_n0.mp b54x
        refine Eg.pk [0, 1, 2] [0, 1, 2] rfl (by decide) ?_
        have ev : vIx B n st.1 = j := vIx_w2 hj b54x hm
        rw [← ev]
        exact rest
      · replace b54x := yn_0.mp b54x
        refine e_iinc rfl rfl ?_
        refine e_goto rfl ?_
        refine Eg.pk [0, 1, 2] [2, 0, 1] rfl (by decide) ?_
        rw [nI_1]
        exact ih (lt_snoc hm b54x)
    · intro hm
      have e11x : vIx B n st.1 = 11 := Decidable.byContradiction (fun e => hm (vIx B n st.1) (by omega) (vIx_lt (by omega)))
      refine e_iload rfl rfl ?_
      refine e_aload rfl rfl ?_
      refine e_getIv rfl hM.1 h56x ?_
      refine e_cge_t rfl (Int32.le_refl _) ?_
      refine Eg.pk [0, 1, 2] [0, 1, 2] rfl (by decide) ?_
      rw [show nI 11 = nI (vIx B n st.1) by rw [e11x]]
      exact rest
  · replace b13x := yn_n0.mp b13x
    refine e_aload rfl rfl ?_
    refine e_ipush rfl ?_
    refine Eg.c2 rfl (by decide) (by decide) rfl (Nat.le_of_ble_eq_true rfl) (xrcv_of rfl hM.1 rfl) ((ms_digits hM a1x (by omega) (by omega)).mono (by decide)) (fun r1x h1x hq => ?_)
    obtain ⟨rfl, K, rfl, b1x, b2x⟩ := hq
    obtain ⟨t1x, t2x, t3x⟩ := tvl_2 b13x
    have hdl := dend_le (B := B) (n := n) (p := st.1)
    have eP : dgP B n st.1 = dend B n st.1 := by unfold dgP; rw [if_pos b13x]
    have eV : dgV B n st.1 = nmv B st.1 (min (dend B n st.1 - st.1) 5) := by unfold dgV; rw [if_pos b13x]
    have eF : dgF B n st.1 0 = if 5 < dend B n st.1 - st.1 then fl 0 st.1 1 else 0 := by unfold dgF; rw [if_pos b13x]
    rw [eP, eF] at b1x
    by_cases h5x : 5 < dend B n st.1 - st.1
    · rw [if_pos h5x] at b1x
      have w1x := c1x.wk (fl_ne (by omega)) b1x (hdl.2 hsn) (MqF.of b2x)
      have eD : rV B n st = (fl 0 st.1 1, st) := by unfold rV; rw [if_pos (tknd_2.mpr b13x), if_pos (by rw [t1x]; unfold nmI; rw [if_pos h5x]; decide)]
      refine e_istore rfl ?_
      refine e_aload rfl rfl ?_
      refine e_iload rfl rfl ?_
      refine Eg.c2 rfl (by decide) (by decide) rfl (Nat.le_of_ble_eq_true rfl) (xrcv_of rfl hM.1 rfl) ((ms_cntW hM (q := st.1) w1x).mono (by decide)) (fun r1x h1x hq => ?_)
      obtain ⟨rfl, G, rfl, v6x, x6x, hgp⟩ := hq
      have y6x := MqF.tr ((MqF.of a2x).tr (MqF.of b2x)) x6x
      refine e_aload rfl rfl ?_
      refine e_ipush rfl ?_
      refine e_iload rfl rfl ?_
      refine Eg.c3 rfl (by decide) (by decide) rfl (Nat.le_of_ble_eq_true rfl) (xrcv_of rfl hM.1 rfl) ((ms_entryW hM v6x).mono (by decide)) (fun r1x h1x hq => ?_)
      obtain ⟨rfl, rfl⟩ := hq
      exact Eg.ret rfl (by decide) rfl ⟨rfl, G, rfl, by rw [eD]; exact ⟨y6x, Or.inr v6x⟩⟩
    · rw [if_neg h5x] at b1x
      have nx : nxt B n st.1 = skp B n (dend B n st.1) := by unfold nxt; rw [if_pos t3x, t2x]
      have nl := nxt_le (B := B) (n := n) (p := st.1) hsn
      have c2x : Mst K B n ri (dend B n st.1) (goN B n st) := c1x.mv b1x (hdl.2 hsn) nx.symm nl.1 b2x
      have tv := tn_val (B := B) (n := n) (p := st.1) (tknd_2.mpr b13x) (by rw [t1x]; unfold nmI; rw [if_neg h5x]; have := nmv_5 (B := B) (n := n) (p := st.1) (by omega); exact Int32.not_lt.mpr ((nI_lei (a := 0) (by decide) (by omega)).mpr (Nat.zero_le _)))
      have eT : tn B n st.1 = dgV B n st.1 := by have e1x := tv.1; rw [t1x] at e1x; unfold nmI at e1x; rw [if_neg h5x] at e1x; have h99x := nmv_5 (B := B) (n := n) (p := st.1) (by omega); have e2x := (nI_eq (by omega) (by omega)).mp e1x; rw [eV, Nat.min_eq_left (by omega)]; exact e2x.symm
      refine e_istore rfl ?_
      refine e_aload rfl rfl ?_
      refine e_iload rfl rfl ?_
      refine Eg.c2 rfl (by decide) (by decide) rfl (Nat.le_of_ble_eq_true rfl) (xrcv_of rfl hM.1 rfl) ((ms_cnt hM (q := st.1) c2x (by omega)).mono (by decide)) (fun r1x h1x hq => ?_)
      obtain ⟨rfl, G, rfl, x6x, hgp, hz⟩ := hq
      have y6x := MqF.tr ((MqF.of a2x).tr (MqF.of b2x)) x6x
      rcases hz with ⟨z6x, c6x⟩ | ⟨z6x, v6x⟩
      · have z60x : ¬ 60 ≤ st.2.1 := Nat.not_le.mpr z6x
        refine e_aload rfl rfl ?_
        refine e_ipush rfl ?_
        refine e_iload rfl rfl ?_
        have hbE : 2 * (st.2.2.length + 1) ≤ 2 * (st.2.1 + 1) + nxt B n st.1 := by omega
        refine Eg.c3 rfl (by decide) (by decide) rfl (Nat.le_of_ble_eq_true rfl) (xrcv_of rfl hM.1 rfl) ((ms_entry hM c6x (e := (0, dgV B n st.1)) hbE).mono (by decide)) (fun r1x h1x hq => ?_)
        obtain ⟨rfl, T, rfl, ct, qt⟩ := hq
        have eD : rV B n st = (0, (nxt B n st.1, st.2.1 + 1, st.2.2 ++ [(0, dgV B n st.1)])) := by unfold rV; rw [if_pos (tknd_2.mpr b13x), if_neg (by rw [tv.1]; exact Int32.not_lt.mpr ((nI_lei (a := 0) (by decide) (by omega)).mpr (Nat.zero_le _))), if_neg z60x, eT]
        exact Eg.ret rfl (by decide) rfl ⟨rfl, T, rfl, by rw [eD]; exact ⟨(y6x.tr qt), Or.inl ⟨rfl, _, ct⟩⟩⟩
      · have eD : rV B n st = (fl 0 st.1 3, st) := by unfold rV; rw [if_pos (tknd_2.mpr b13x), if_neg (by rw [tv.1]; exact Int32.not_lt.mpr ((nI_lei (a := 0) (by decide) (by omega)).mpr (Nat.zero_le _))), if_pos (show 60 ≤ st.2.1 from z6x)]
        refine e_aload rfl rfl ?_
        refine e_ipush rfl ?_
        refine e_iload rfl rfl ?_
        refine Eg.c3 rfl (by decide) (by decide) rfl (Nat.le_of_ble_eq_true rfl) (xrcv_of rfl hM.1 rfl) ((ms_entryW hM v6x).mono (by decide)) (fun r1x h1x hq => ?_)
        obtain ⟨rfl, rfl⟩ := hq
        exact Eg.ret rfl (by decide) rfl ⟨rfl, G, rfl, by rw [eD]; exact ⟨y6x, Or.inr v6x⟩⟩
theorem ms_valW (hM : MW sh R) {F : Int32} (hw : Msw I B n ri F) : Ec X 6 204 [.ref 290] (sh, I, L, R) (fun r h' => r = none ∧ ∃ J : Nat → Nat → Int32, h' = (sh, J, L, R) ∧ Msw J B n ri F ∧ MqF I J ri) := by
  obtain ⟨h0x, ⟨p, hpn, hm0x⟩, -⟩ := id hw
  have hn := hm0x.1.1
  have hs := skp_le (B := B) (n := n) (p := p)
  have hsn := hs.2 hpn
  have htk := tok_skp (B := B) hpn
  refine Ec.of (Nat.le_of_ble_eq_true rfl) ?_
  refine e_aload rfl rfl ?_
  refine Eg.c1 rfl (by decide) (by decide) rfl (Nat.le_of_ble_eq_true rfl) (xrcv_of rfl hM.1 rfl) ((ms_blanks hM hm0x (by omega)).mono (by decide)) (fun r1x h1x hq => ?_)
  obtain ⟨rfl, J, rfl, a1x, a2x⟩ := hq
  have w1x := hw.mv a1x hsn (MqF.of a2x)
  refine e_aload rfl rfl ?_
  refine e_getIv rfl hM.1 a1x.2.1 ?_
  refine e_istore rfl ?_
  refine e_aload rfl rfl ?_
  refine Eg.p1 rfl (by decide) (by decide) rfl (Nat.le_of_ble_eq_true rfl) (xrcv_of rfl hM.1 rfl) ((ms_isDigit hM a1x (by omega)).mono (by decide)) ?_
  refine e_ifeq_b rfl (fun b13x => ?_) (fun b13x => ?_)
  · replace b13x := yn_0.mp b13x
    refine e_ipush rfl ?_
    refine e_istore rfl ?_
    refine Eg.pk [0, 1, 2] [2, 1, 0] rfl (by decide) ?_
    have k11x := vIx_le (B := B) (n := n) (p := (skp B n p))
    have h56x : J 290 56 = nI 11 := w1x.2.2.2.2
    have rest : Eg X xTc 5 204 63 [(0, .ref 290), (1, .int (nI (skp B n p))), (2, .int (nI (vIx B n (skp B n p))))] [] (sh, J, L, R) (fun r h' => r = none ∧ ∃ J : Nat → Nat → Int32, h' = (sh, J, L, R) ∧ Msw J B n ri F ∧ MqF I J ri) := by
      refine e_iload rfl rfl ?_
      refine e_aload rfl rfl ?_
      refine e_getIv rfl hM.1 h56x ?_
      refine e_cne_b rfl (fun b68x => ?_) (fun b68x => ?_)
      · have hv : vIx B n (skp B n p) < 11 := by have : ¬ vIx B n (skp B n p) = 11 := fun e => b68x (by rw [e]); omega
        have wi := vIx_lt hv
        have wl := wvx_lt _ hv
        have wn := wIs_nxt wl wi
        obtain ⟨x1x, x2x, x3x⟩ := wtx_ok _ hv
        obtain ⟨y1x, y2x, y3x⟩ := txw_ok _ x1x x2x
        rw [x3x] at y2x
        have elen : nI (xlen.getD (wtx.getD (vIx B n (skp B n p)) 0) 0) = nI (wln (wvx.getD (vIx B n (skp B n p)) 0)) := by rw [y2x]
        refine e_aload rfl rfl ?_
        refine e_iload rfl rfl ?_
        refine Eg.c2 rfl (by decide) (by decide) rfl (Nat.le_of_ble_eq_true rfl) (xrcv_of rfl hM.1 rfl) ((ms_cntW hM (q := (skp B n p)) w1x).mono (by decide)) (fun r1x h1x hq => ?_)
        obtain ⟨rfl, G, rfl, v5x, x5x, hgp⟩ := hq
        have y5x := MqF.tr (MqF.of a2x) x5x
        refine e_aload rfl rfl ?_
        refine e_dupr rfl ?_
        refine e_getIv rfl hM.1 (hgp.trans a1x.2.1) ?_
        refine e_iload rfl rfl ?_
        refine Eg.p1 rfl (by decide) (by decide) rfl (Nat.le_of_ble_eq_true rfl) (xrcv_ofs (Or.inl rfl)) ((ms_wordOf (w := vIx B n (skp B n p)) hv).mono (by decide)) ?_
        refine Eg.p1 rfl (by decide) (by decide) rfl (Nat.le_of_ble_eq_true rfl) (xrcv_oft rfl (by omega)) ((tx_len (j := wtx.getD (vIx B n (skp B n p)) 0) (by omega)).mono (by decide)) ?_
        rw [elen]
        refine e_iadd rfl ?_
        rw [show (nI (skp B n p)) + (nI (wln (wvx.getD (vIx B n (skp B n p)) 0))) = nI ((skp B n p) + wln (wvx.getD (vIx B n (skp B n p)) 0)) from nI_add _ _]
        refine e_putIJ rfl hM.1 (fun J21x g21x f21x => ?_)
        obtain ⟨-, ⟨pg, -, rg⟩, -⟩ := id v5x
        have r9x := rg.fr (J := J21x) (p' := (skp B n p) + wln (wvx.getD (vIx B n (skp B n p)) 0)) (fun i k q => f21x i k (by omega)) g21x ((f21x 290 49 (by decide)).trans rg.2.2)
        have w9x := v5x.mv r9x wn.1 (fun i k a b => f21x i k (by omega))
        refine e_aload rfl rfl ?_
        refine e_ipush rfl ?_
        refine e_iload rfl rfl ?_
        refine Eg.c3 rfl (by decide) (by decide) rfl (Nat.le_of_ble_eq_true rfl) (xrcv_of rfl hM.1 rfl) ((ms_entryW hM w9x).mono (by decide)) (fun r1x h1x hq => ?_)
        obtain ⟨rfl, rfl⟩ := hq
        exact Eg.ret rfl (by decide) rfl ⟨rfl, J21x, rfl, w9x, (y5x.tr (fun i k a b => f21x i k (by omega)))⟩
      · have b68x : vIx B n (skp B n p) = 11 := (nI_eq (b := 11) (by omega) (by decide)).mp b68x
        refine e_aload rfl rfl ?_
        refine e_ipush rfl ?_
        refine e_iload rfl rfl ?_
        refine Eg.c3 rfl (by decide) (by decide) rfl (Nat.le_of_ble_eq_true rfl) (xrcv_of rfl hM.1 rfl) ((ms_fails hM a1x (k := 0) (q := (skp B n p))).mono (by decide)) (fun r1x h1x hq => ?_)
        obtain ⟨rfl, K, rfl, b1x, b2x⟩ := hq
        rw [fl_n h0x] at b1x
        have w2x := w1x.mv b1x hsn (MqF.of b2x)
        exact Eg.ret rfl (by decide) rfl ⟨rfl, K, rfl, w2x, (MqF.of a2x).tr (MqF.of b2x)⟩
    refine up_ind (p := fun j => (∀ t, t < j → ¬ wIs B n (skp B n p) (wvx.getD t 0) = true) → Eg X xTc 5 204 38 [(0, .ref 290), (1, .int (nI (skp B n p))), (2, .int (nI j))] [] (sh, J, L, R) (fun r h' => r = none ∧ ∃ J : Nat → Nat → Int32, h' = (sh, J, L, R) ∧ Msw J B n ri F ∧ MqF I J ri)) (n := 11) (j := 0) (fun j hj ih => ?_) ?_ (Nat.zero_le _) (fun t ht => absurd ht (by omega))
    · intro hm
      obtain ⟨x1x, x2x, x3x⟩ := wtx_ok j hj
      refine e_iload rfl rfl ?_
      refine e_aload rfl rfl ?_
      refine e_getIv rfl hM.1 h56x ?_
      refine e_cge_f rfl (nI_ge (b := 11) hj (by decide)) ?_
      refine e_aload rfl rfl ?_
      refine e_iload rfl rfl ?_
      refine Eg.p1 rfl (by decide) (by decide) rfl (Nat.le_of_ble_eq_true rfl) (xrcv_ofs (Or.inl rfl)) ((ms_wordOf (w := j) hj).mono (by decide)) ?_
      refine Eg.p2 rfl (by decide) (by decide) rfl (Nat.le_of_ble_eq_true rfl) (xrcv_of rfl hM.1 rfl) ((ms_stood hM a1x (by omega) (j := wtx.getD j 0) (w := wvx.getD j 0) x1x x2x x3x).mono (by decide)) ?_
      refine e_ifne_b rfl (fun b54x => ?_) (fun b54x => ?_)
      · replace b54x := yn_n0.mp b54x
        refine Eg.pk [0, 1, 2] [0, 1, 2] rfl (by decide) ?_
        have ev : vIx B n (skp B n p) = j := vIx_w2 hj b54x hm
        rw [← ev]
        exact rest
      · replace b54x := yn_0.mp b54x
        refine e_iinc rfl rfl ?_
        refine e_goto rfl ?_
        refine Eg.pk [0, 1, 2] [2, 0, 1] rfl (by decide) ?_
        rw [nI_1]
        exact ih (lt_snoc hm b54x)
    · intro hm
      have e11x : vIx B n (skp B n p) = 11 := Decidable.byContradiction (fun e => hm (vIx B n (skp B n p)) (by omega) (vIx_lt (by omega)))
      refine e_iload rfl rfl ?_
      refine e_aload rfl rfl ?_
      refine e_getIv rfl hM.1 h56x ?_
      refine e_cge_t rfl (Int32.le_refl _) ?_
      refine Eg.pk [0, 1, 2] [0, 1, 2] rfl (by decide) ?_
      rw [show nI 11 = nI (vIx B n (skp B n p)) by rw [e11x]]
      exact rest
  · replace b13x := yn_n0.mp b13x
    refine e_aload rfl rfl ?_
    refine e_ipush rfl ?_
    refine Eg.c2 rfl (by decide) (by decide) rfl (Nat.le_of_ble_eq_true rfl) (xrcv_of rfl hM.1 rfl) ((ms_digits hM a1x (by omega) (by omega)).mono (by decide)) (fun r1x h1x hq => ?_)
    obtain ⟨rfl, K, rfl, b1x, b2x⟩ := hq
    obtain ⟨t1x, t2x, t3x⟩ := tvl_2 b13x
    have hdl := dend_le (B := B) (n := n) (p := (skp B n p))
    have eP : dgP B n (skp B n p) = dend B n (skp B n p) := by unfold dgP; rw [if_pos b13x]
    have eV : dgV B n (skp B n p) = nmv B (skp B n p) (min (dend B n (skp B n p) - (skp B n p)) 5) := by unfold dgV; rw [if_pos b13x]
    have eF : dgF B n (skp B n p) F = if 5 < dend B n (skp B n p) - (skp B n p) then fl F (skp B n p) 1 else F := by unfold dgF; rw [if_pos b13x]
    rw [eP, eF] at b1x
    rw [fl_n h0x, ite_self] at b1x
    have w2x := w1x.mv b1x (hdl.2 hsn) (MqF.of b2x)
    refine e_istore rfl ?_
    refine e_aload rfl rfl ?_
    refine e_iload rfl rfl ?_
    refine Eg.c2 rfl (by decide) (by decide) rfl (Nat.le_of_ble_eq_true rfl) (xrcv_of rfl hM.1 rfl) ((ms_cntW hM (q := (skp B n p)) w2x).mono (by decide)) (fun r1x h1x hq => ?_)
    obtain ⟨rfl, G, rfl, v6x, x6x, hgp⟩ := hq
    have y6x := MqF.tr ((MqF.of a2x).tr (MqF.of b2x)) x6x
    refine e_aload rfl rfl ?_
    refine e_ipush rfl ?_
    refine e_iload rfl rfl ?_
    refine Eg.c3 rfl (by decide) (by decide) rfl (Nat.le_of_ble_eq_true rfl) (xrcv_of rfl hM.1 rfl) ((ms_entryW hM v6x).mono (by decide)) (fun r1x h1x hq => ?_)
    obtain ⟨rfl, rfl⟩ := hq
    exact Eg.ret rfl (by decide) rfl ⟨rfl, G, rfl, v6x, y6x⟩
end MU2x
