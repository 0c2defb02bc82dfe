/-! A SEA read, the other side: a train, a clause, all clauses -/
section MS2x
variable {X : xX} {h : xH} {sh : List (Nat × Nat)} {I : Nat → Nat → Int32} {L : Nat → Nat → Int64} {R : Nat → Nat → Option Nat} {B : Nat → Nat} {n : Nat} {u : Nat → Nat → Int32} {s : Nat}
theorem ms_readsTrain (hM : MW sh R) {p q : Nat} (hr : Mr I B n p 0) (hpn : p ≤ n) (hq : skp B n p = q) (v0x : nV I u) (hw : WfU u) (hlt : cn u 1 < 3) : Ec X 5 215 [.ref 290] (sh, I, L, R) (fun r h' => r = none ∧ ∃ (J : Nat → Nat → Int32) (p' : Nat), h' = (sh, J, L, R) ∧ Mr J B n p' (sPF B n u 1 q) ∧ p' ≤ n ∧ ((sPF B n u 1 q) = 0 → skp B n p' = sPP B n u 1 q ∧ nV J (sPU B n u 1 q)) ∧ NF I J ∧ J 290 57 = I 290 57) := by
  have hn := hr.1.1
  have hb := hw.1.2
  have hqn : q ≤ n := by rw [← hq]; exact (skp_le (B := B) (n := n) (p := p)).2 hpn
  have n0x : NF I I := NF.rf
  have h57x : I 290 57 = I 290 57 := rfl
  obtain ⟨F1x, eF1x⟩ : ∃ x, kF B n q 0 0 9 = x := ⟨_, rfl⟩
  obtain ⟨P1x, eP1x⟩ : ∃ x, kP B n q 0 0 9 = x := ⟨_, rfl⟩
  obtain ⟨F2x, eF2x⟩ : ∃ x, kF B n P1x F1x 0 29 = x := ⟨_, rfl⟩
  obtain ⟨P2x, eP2x⟩ : ∃ x, kP B n P1x F1x 0 29 = x := ⟨_, rfl⟩
  have eSF : sPF B n u 1 q = rwF B n P2x F2x := by rw [sPF_1]; simp only [eF1x, eP1x, eF2x, eP2x]
  have eSP : sPP B n u 1 q = nxt B n P2x := by rw [sPP_1]; simp only [eF1x, eP1x, eP2x]
  have eSU : sPU B n u 1 q = fTrn u (nI (tn B n q)) (nI (tn B n P1x)) (rwN B n P2x) (fun i => nI (B (P2x + i) - 48)) := by rw [sPU_1]; simp only [eF1x, eP1x, eP2x]
  rw [eSF, eSP, eSU]
  refine Ec.of (Nat.le_of_ble_eq_true rfl) ?_
  refine e_aload rfl rfl ?_
  refine e_getR rfl hM.1 (show R 290 32 = some 322 from (hM.2 31 _ rfl).2) ?_
  refine e_ipush rfl ?_
  refine e_ialv (t := 1) (n := 7) rfl (show sh[322]? = some (20, 7) from (hM.2 31 _ rfl).1) rfl (by decide) (by decide) ((v0x.1 1 1 (by decide) (by decide)).trans (hw.1.1 1 (by decide))) ?_
  refine e_istore rfl ?_
  refine e_aload rfl rfl ?_
  refine e_getR rfl hM.1 (show R 290 34 = some 324 from (hM.2 33 _ rfl).2) ?_
  refine e_iload rfl rfl ?_
  refine e_aload rfl rfl ?_
  refine e_ipush rfl ?_
  refine e_ipush rfl ?_
  refine Eg.c3 rfl (by decide) (by decide) rfl (Nat.le_of_ble_eq_true rfl) (xrcv_of rfl hM.1 rfl) ((ms_amt hM hr hpn (fun _ => hq) (a := 0) (b := 9) (by omega) (by omega) eF1x eP1x).mono (by decide)) (fun r1x h1x hq => ?_)
  obtain ⟨y1x, p1x, J1x, rfl, rfl, r1x, m1x, l1x, c1x⟩ := hq
  have v1x : nV J1x u := v0x.fr (fun i k q1x q2x => m1x i k (by omega))
  have n1x := n0x.tr (NF.of m1x)
  have r1x_ := r1x
  have h57x := (m1x 290 57 (by decide)).trans h57x
  refine e_iasJ (t := cn u 1) (n := 3) rfl (show sh[324]? = some (20, 3) from (hM.2 33 _ rfl).1) rfl (by omega) (by decide) (fun J11x g11x f11x => ?_)
  have va11x : nV J11x (xu u 3 (cn u 1) y1x) := v1x.up (c := 324) (by decide) g11x f11x
  have r1x_ : Mr J11x B n p1x F1x := Mr.nf r1x_ (fun i t hi => f11x i t (by omega))
  have nb11x : NF I J11x := n1x.tr (fun i t _ hi => f11x i t (by omega))
  have h57x := (f11x 290 57 (Or.inl (by decide))).trans h57x
  refine e_aload rfl rfl ?_
  refine e_getR rfl hM.1 (show R 290 35 = some 325 from (hM.2 34 _ rfl).2) ?_
  refine e_iload rfl rfl ?_
  refine e_aload rfl rfl ?_
  refine e_ipush rfl ?_
  refine e_ipush rfl ?_
  refine Eg.c3 rfl (by decide) (by decide) rfl (Nat.le_of_ble_eq_true rfl) (xrcv_of rfl hM.1 rfl) ((ms_amt hM r1x_ l1x (fun e => (c1x e).2) (a := 0) (b := 29) (by omega) (by omega) eF2x eP2x).mono (by decide)) (fun r1x h1x hq => ?_)
  obtain ⟨y2x, p2x, J2x, rfl, rfl, r2x, m2x, l2x, c2x⟩ := hq
  have v2x : nV J2x (xu u 3 (cn u 1) y1x) := va11x.fr (fun i k q1x q2x => m2x i k (by omega))
  have n2x := nb11x.tr (NF.of m2x)
  have r2x_ := r2x
  have h57x := (m2x 290 57 (by decide)).trans h57x
  refine e_iasJ (t := cn u 1) (n := 3) rfl (show sh[325]? = some (20, 3) from (hM.2 34 _ rfl).1) rfl (by omega) (by decide) (fun J12x g12x f12x => ?_)
  have va12x : nV J12x (xu (xu u 3 (cn u 1) y1x) 4 (cn u 1) y2x) := v2x.up (c := 325) (by decide) g12x f12x
  have r2x_ : Mr J12x B n p2x F2x := Mr.nf r2x_ (fun i t hi => f12x i t (by omega))
  have nb12x : NF I J12x := n2x.tr (fun i t _ hi => f12x i t (by omega))
  have h57x := (f12x 290 57 (Or.inl (by decide))).trans h57x
  refine e_aload rfl rfl ?_
  refine Eg.c1 rfl (by decide) (by decide) rfl (Nat.le_of_ble_eq_true rfl) (xrcv_of rfl hM.1 rfl) ((ms_blanks hM r2x_ (by omega)).mono (by decide)) (fun r1x h1x hq => ?_)
  obtain ⟨rfl, J3x, rfl, r3x, m3x⟩ := hq
  have h57x := (m3x 290 57 (by decide)).trans h57x
  have v3x : nV J3x (xu (xu u 3 (cn u 1) y1x) 4 (cn u 1) y2x) := va12x.fr (fun i k q1x q2x => m3x i k (by omega))
  have n3x := nb12x.tr (NF.of m3x)
  have l3x := (skp_le (B := B) (n := n) (p := p2x)).2 l2x
  refine e_aload rfl rfl ?_
  refine e_getIv rfl hM.1 r3x.2.1 ?_
  refine e_istore rfl ?_
  refine Eg.pk [0, 1, 2] [2, 1, 0] rfl (by decide) ?_
  have s1x : J3x 322 1 = nI (cn u 1) := (v3x.1 1 1 (by decide) (by decide)).trans ((xu_o (Or.inl (by decide))).trans ((xu_o (Or.inl (by decide))).trans (hw.1.1 1 (by decide))))
  by_cases eF : F2x = 0
  · have ePos : skp B n p2x = P2x := (c2x eF).2
    have hP2x : P2x ≤ n := by rw [← ePos]; exact l3x
    rw [ePos] at r3x l3x ⊢
    by_cases hd : dgM B n P2x = true
    · obtain ⟨hlt2, hdp⟩ := dgM_iff.mp hd
      have ht2x := tknd_2.mpr hd
      have eN : rwN B n P2x = dend B n P2x - P2x := if_pos ht2x
      have hD := dend_le (B := B) (n := n) (p := P2x)
      have hD2x := hD.2 hP2x
      have hD3x := dend_lt hlt2 hdp
      subst eF
      refine e_aload rfl rfl ?_
      refine e_getIv rfl hM.1 r3x.2.2 ?_
      refine e_ifne_f rfl rfl ?_
      refine e_aload rfl rfl ?_
      refine Eg.p1 rfl (by decide) (by decide) rfl (Nat.le_of_ble_eq_true rfl) (xrcv_of rfl hM.1 rfl) ((ms_isDigit hM r3x (by omega)).mono (by decide)) ?_
      refine e_ifne_t rfl (yn_n0.mpr hd) ?_
      refine e_ipush rfl ?_
      refine e_istore rfl ?_
      refine Eg.pk [0, 1, 2, 3] [3, 0, 1, 2] rfl (by decide) ?_
      refine up_ind (p := fun j => ∀ K : Nat → Nat → Int32, Mr K B n (P2x + j) 0 → (∀ i, i < j → i < 20 → K 327 (20 * cn u 1 + i) = nI (B (P2x + i) - 48)) → (∀ p r, ¬ (p = 327 ∧ 20 * cn u 1 ≤ r ∧ r < 20 * cn u 1 + j) → (p ≠ 290 ∨ r ≠ 48) → K p r = J3x p r) → Eg X xTc 4 215 64 [(0, .ref 290), (1, .int (nI (cn u 1))), (2, .int (nI P2x)), (3, .int (nI j))] [] (sh, K, L, R) (fun r h' => r = none ∧ ∃ (J : Nat → Nat → Int32) (p' : Nat), h' = (sh, J, L, R) ∧ Mr J B n p' (rwF B n P2x 0) ∧ p' ≤ n ∧ (rwF B n P2x 0 = 0 → skp B n p' = nxt B n P2x ∧ nV J (fTrn u (nI (tn B n q)) (nI (tn B n P1x)) (rwN B n P2x) (fun i => nI (B (P2x + i) - 48)))) ∧ NF I J ∧ J 290 57 = I 290 57)) (n := dend B n P2x - P2x) (j := 0) (fun j hj ih => ?_) ?_ (Nat.zero_le _) J3x r3x (fun i hi => absurd hi (by omega)) (fun p r _ _ => rfl)
      · intro K kr k1x k2x
        have hdj : dgM B n (P2x + j) = true := dgM_iff.mpr ⟨by omega, dend_in (n := n) (p := P2x) (by omega) (by omega)⟩
        have hdc := isD_iff.mp (dgM_iff.mp hdj).2
        have sg : sgM B n (P2x + j) = nI (B (P2x + j)) := if_pos (by omega)
        refine e_aload rfl rfl ?_
        refine e_getIv rfl hM.1 kr.2.2 ?_
        refine e_ifne_f rfl rfl ?_
        refine e_aload rfl rfl ?_
        refine Eg.p1 rfl (by decide) (by decide) rfl (Nat.le_of_ble_eq_true rfl) (xrcv_of rfl hM.1 rfl) ((ms_isDigit hM kr (by omega)).mono (by decide)) ?_
        refine e_ifeq_f rfl (yn_n0.mpr hdj) ?_
        refine e_iload rfl rfl ?_
        refine e_ipush rfl ?_
        refine e_cge_b rfl (fun b81x => ?_) (fun b81x => ?_)
        · have b81x := (nI_lei (a := 20) (by decide) (by omega)).mp b81x
          refine e_iinc rfl rfl ?_
          refine e_aload rfl rfl ?_
          refine e_dupr rfl ?_
          refine e_getIv rfl hM.1 kr.2.1 ?_
          refine e_ipush rfl ?_
          refine e_iadd rfl ?_
          rw [show (nI (P2x + j)) + 1 = nI (P2x + (j + 1)) from nI_1 (P2x + j)]
          refine e_putIJ rfl hM.1 (fun J41x g41x f41x => ?_)
          refine e_goto rfl ?_
          refine Eg.pk [0, 1, 2, 3] [3, 0, 1, 2] rfl (by decide) ?_
          rw [nI_1]
          refine ih J41x (kr.fr (fun i k q => f41x i k (by omega)) g41x ((f41x 290 49 (by decide)).trans kr.2.2)) (fun i h1x h2x => (f41x 327 _ (by omega)).trans (k1x i (by omega) h2x)) (fun p r q1x q2x => (f41x p r (by omega)).trans (k2x p r (by omega) q2x))
        · have b81x := nle (a := 20) (by decide) (by omega) b81x
          refine e_aload rfl rfl ?_
          refine e_getR rfl hM.1 (show R 290 37 = some 327 from (hM.2 36 _ rfl).2) ?_
          refine e_ipush rfl ?_
          refine e_iload rfl rfl ?_
          refine e_imul rfl ?_
          rw [show 20 * (nI (cn u 1)) = nI (20 * cn u 1) from nI_times 20 _]
          refine e_iload rfl rfl ?_
          refine e_iadd rfl ?_
          rw [show (nI (20 * cn u 1)) + (nI j) = nI (20 * cn u 1 + j) from nI_add _ _]
          refine e_aload rfl rfl ?_
          refine Eg.p1 rfl (by decide) (by decide) rfl (Nat.le_of_ble_eq_true rfl) (xrcv_of rfl hM.1 rfl) ((ms_sign hM kr (by omega)).mono (by decide)) ?_
          rw [sg]
          refine e_ipush rfl ?_
          refine e_isub rfl ?_
          rw [show (nI (B (P2x + j))) - 48 = nI (B (P2x + j) - 48) from nI_sub (b := 48) hdc.1]
          refine e_iasJ (t := 20 * cn u 1 + j) (n := 60) rfl (show sh[327]? = some (20, 60) from (hM.2 36 _ rfl).1) rfl (by omega) (by decide) (fun J42x g42x f42x => ?_)
          refine e_iinc rfl rfl ?_
          refine e_aload rfl rfl ?_
          refine e_dupr rfl ?_
          refine e_getIv rfl hM.1 ((f42x 290 48 (Or.inl (by omega))).trans kr.2.1) ?_
          refine e_ipush rfl ?_
          refine e_iadd rfl ?_
          rw [show (nI (P2x + j)) + 1 = nI (P2x + (j + 1)) from nI_1 (P2x + j)]
          refine e_putIJ rfl hM.1 (fun J43x g43x f43x => ?_)
          refine e_goto rfl ?_
          refine Eg.pk [0, 1, 2, 3] [3, 0, 1, 2] rfl (by decide) ?_
          rw [nI_1]
          refine ih J43x ((Mr.nf kr (fun i t hi => f42x i t (by omega))).fr (fun i k q => f43x i k (by omega)) g43x ((f43x 290 49 (by decide)).trans ((f42x 290 49 (Or.inl (by decide))).trans kr.2.2))) (fun i h1x h2x => ?_) (fun p r q1x q2x => (f43x p r (by omega)).trans ((f42x p r (by omega)).trans (k2x p r (by omega) q2x)))
          refine (f43x 327 _ (by omega)).trans ?_
          by_cases e : i = j
          · subst e; exact g42x
          · exact (f42x 327 _ (by omega)).trans (k1x i (by omega) h2x)
      · intro K kr k1x k2x
        have eDP : P2x + (dend B n P2x - P2x) = dend B n P2x := by omega
        rw [eDP] at kr
        have nd := dend_out (B := B) hP2x
        have kN : NF I K := n3x.tr (fun i t q1x hi => k2x i t (by omega) (by omega))
        have k57x : K 290 57 = I 290 57 := (k2x 290 57 (by omega) (by decide)).trans h57x
        have ks1x : K 322 1 = nI (cn u 1) := (k2x 322 1 (by omega) (by decide)).trans s1x
        rw [← eN] at k1x k2x ⊢
        refine e_aload rfl rfl ?_
        refine e_getIv rfl hM.1 kr.2.2 ?_
        refine e_ifne_f rfl rfl ?_
        refine e_aload rfl rfl ?_
        refine Eg.p1 rfl (by decide) (by decide) rfl (Nat.le_of_ble_eq_true rfl) (xrcv_of rfl hM.1 rfl) ((ms_isDigit hM kr (by omega)).mono (by decide)) ?_
        refine e_ifeq_t rfl (yn_0.mpr nd) ?_
        refine e_aload rfl rfl ?_
        refine e_getIv rfl hM.1 kr.2.2 ?_
        refine e_ifne_f rfl rfl ?_
        refine e_iload rfl rfl ?_
        refine e_i2l rfl ?_
        refine e_lpush rfl ?_
        refine e_lpush rfl ?_
        refine Eg.p3 rfl (by decide) (by decide) rfl (Nat.le_of_ble_eq_true rfl) (xrcv_ofs (Or.inl rfl)) ((ms_inv (x := nI (rwN B n P2x)) (y := 2) (z := 20) rfl (by decide) (by decide)).mono (by decide)) ?_
        refine e_ifne_b rfl (fun b136x => ?_) (fun b136x => ?_)
        · replace b136x := yn_n0.mp b136x
          refine Eg.pk [0, 1, 2, 3] [0, 1, 2, 3] rfl (by decide) ?_
          have bb : ¬ (rwN B n P2x < 2 ∨ 20 < rwN B n P2x) := fun q => b136x (q.imp (fun r => (nI_lti (b := 2) (by omega) (by decide)).mpr r) (fun r => (nI_lti (a := 20) (by decide) (by omega)).mpr r))
          have eR : rwF B n P2x 0 = 0 := by unfold rwF; rw [if_neg (by omega), if_neg bb]
          rw [eR]
          have e1x : F1x = 0 := kF_0 eF2x
          have z1x := c1x e1x
          have z2x := c2x rfl
          have vK : nV K (fun f i => if f = 6 ∧ 20 * cn u 1 ≤ i ∧ i < 20 * cn u 1 + rwN B n P2x then nI (B (P2x + (i - 20 * cn u 1)) - 48) else (xu (xu u 3 (cn u 1) y1x) 4 (cn u 1) y2x) f i) := by
            refine ⟨fun f k h1x h2x => ?_, fun k => ?_, fun k => ?_⟩
            · by_cases e : f = 6 ∧ 20 * cn u 1 ≤ k ∧ k < 20 * cn u 1 + rwN B n P2x
              · dsimp only; rw [if_pos e]
                have := k1x (k - 20 * cn u 1) (by omega) (by omega)
                rw [show 20 * cn u 1 + (k - 20 * cn u 1) = k by omega] at this
                rw [e.1]; exact this
              · dsimp only; rw [if_neg e, k2x _ _ (by omega) (by omega)]; exact v3x.1 f k h1x h2x
            · dsimp only; rw [if_neg (by omega), k2x _ _ (by omega) (by omega)]; exact v3x.2.1 k
            · dsimp only; rw [if_neg (by omega), k2x _ _ (by omega) (by omega)]; exact v3x.2.2 k
          refine e_aload rfl rfl ?_
          refine e_getR rfl hM.1 (show R 290 36 = some 326 from (hM.2 35 _ rfl).2) ?_
          refine e_iload rfl rfl ?_
          refine e_iload rfl rfl ?_
          refine e_iasJ (t := cn u 1) (n := 3) rfl (show sh[326]? = some (20, 3) from (hM.2 35 _ rfl).1) rfl (by omega) (by decide) (fun J61x g61x f61x => ?_)
          refine e_aload rfl rfl ?_
          refine e_getR rfl hM.1 (show R 290 32 = some 322 from (hM.2 31 _ rfl).2) ?_
          refine e_ipush rfl ?_
          refine e_dup2 rfl ?_
          refine e_ialv (t := 1) (n := 7) rfl (show sh[322]? = some (20, 7) from (hM.2 31 _ rfl).1) rfl (by decide) (by decide) ((f61x 322 1 (by omega)).trans ks1x) ?_
          refine e_ipush rfl ?_
          refine e_iadd rfl ?_
          rw [show (nI (cn u 1)) + 1 = nI (cn u 1 + 1) from nI_1 _]
          refine e_iasJ (t := 1) (n := 7) rfl (show sh[322]? = some (20, 7) from (hM.2 31 _ rfl).1) rfl (by decide) (by decide) (fun J62x g62x f62x => ?_)
          refine Eg.ret rfl (by decide) rfl ⟨rfl, J62x, _, rfl, (Mr.nf (Mr.nf kr (fun i t hi => f61x i t (by omega))) (fun i t hi => f62x i t (by omega))), hD2x, fun _ => ⟨?_, ?_⟩, (kN.tr (fun i t _ hi => f61x i t (by omega))).tr (fun i t _ hi => f62x i t (by omega)), (f62x 290 57 (Or.inl (by decide))).trans ((f61x 290 57 (Or.inl (by decide))).trans k57x)⟩
          · unfold nxt; rw [if_pos hlt2, (tvl_2 hd).2.1]
          · have vG := (vK.up (c := 326) (f := 5) (by decide) g61x f61x).up (c := 322) (f := 1) (by decide) g62x f62x
            rw [z1x.1, z2x.1] at vG
            refine cast (congrArg _ ?_) vG
            funext f i
            unfold fTrn telF
            by_cases e : f = 6 ∧ 20 * cn u 1 ≤ i ∧ i < 20 * cn u 1 + rwN B n P2x
            · rw [if_pos e, xu_o (by omega), xu_o (by omega), if_pos e]
            · rw [if_neg e]
              by_cases ea : f = 1 ∧ i = 1
              · obtain ⟨rfl, rfl⟩ := ea; rw [xu_at, xu_at]
              · rw [xu_o (by omega), xu_o (i := 1) (by omega)]
                by_cases eb : f = 5 ∧ i = cn u 1
                · obtain ⟨rfl, rfl⟩ := eb; rw [xu_at, xu_at]
                · rw [xu_o (by omega), if_neg e, xu_o (i := 5) (by omega)]
        · replace b136x := yn_0.mp b136x
          refine e_aload rfl rfl ?_
          refine e_ipush rfl ?_
          refine e_iload rfl rfl ?_
          refine Eg.c3 rfl (by decide) (by decide) rfl (Nat.le_of_ble_eq_true rfl) (xrcv_of rfl hM.1 rfl) ((ms_fails hM kr (k := 1) (q := P2x)).mono (by decide)) (fun r1x h1x hq => ?_)
          obtain ⟨rfl, G, rfl, rG, mG⟩ := hq
          refine Eg.pk [0, 1, 2, 3] [0, 1, 2, 3] rfl (by decide) ?_
          have bb : rwN B n P2x < 2 ∨ 20 < rwN B n P2x := Decidable.byContradiction (fun q => b136x (fun r => r.elim (fun r => by have := (nI_lti (b := 2) (by omega) (by decide)).mp r; omega) (fun r => by have := (nI_lti (a := 20) (by decide) (by omega)).mp r; omega)))
          have eR : rwF B n P2x 0 = fl 0 P2x 1 := by unfold rwF; rw [if_neg (by omega), if_pos bb]
          rw [eR]
          refine e_aload rfl rfl ?_
          refine e_getR rfl hM.1 (show R 290 36 = some 326 from (hM.2 35 _ rfl).2) ?_
          refine e_iload rfl rfl ?_
          refine e_iload rfl rfl ?_
          refine e_iasJ (t := cn u 1) (n := 3) rfl (show sh[326]? = some (20, 3) from (hM.2 35 _ rfl).1) rfl (by omega) (by decide) (fun J31x g31x f31x => ?_)
          refine e_aload rfl rfl ?_
          refine e_getR rfl hM.1 (show R 290 32 = some 322 from (hM.2 31 _ rfl).2) ?_
          refine e_ipush rfl ?_
          refine e_dup2 rfl ?_
          refine e_ialv (t := 1) (n := 7) rfl (show sh[322]? = some (20, 7) from (hM.2 31 _ rfl).1) rfl (by decide) (by decide) ((f31x 322 1 (by omega)).trans ((mG 322 1 (by decide)).trans ks1x)) ?_
          refine e_ipush rfl ?_
          refine e_iadd rfl ?_
          rw [show (nI (cn u 1)) + 1 = nI (cn u 1 + 1) from nI_1 _]
          refine e_iasJ (t := 1) (n := 7) rfl (show sh[322]? = some (20, 7) from (hM.2 31 _ rfl).1) rfl (by decide) (by decide) (fun J32x g32x f32x => ?_)
          exact Eg.ret rfl (by decide) rfl ⟨rfl, J32x, _, rfl, (Mr.nf (Mr.nf rG (fun i t hi => f31x i t (by omega))) (fun i t hi => f32x i t (by omega))), hD2x, fun e => absurd e (fl_ne (by omega)), ((kN.tr (NF.of mG)).tr (fun i t _ hi => f31x i t (by omega))).tr (fun i t _ hi => f32x i t (by omega)), (f32x 290 57 (Or.inl (by decide))).trans ((f31x 290 57 (Or.inl (by decide))).trans ((mG 290 57 (by decide)).trans k57x))⟩
    · subst eF
      have ht2x : ¬ tknd B n P2x = 2 := fun q => hd (tknd_2.mp q)
      have eN : rwN B n P2x = 0 := if_neg ht2x
      have eR : rwF B n P2x 0 = fl 0 P2x 0 := if_pos eN
      rw [eR]
      refine e_aload rfl rfl ?_
      refine e_getIv rfl hM.1 r3x.2.2 ?_
      refine e_ifne_f rfl rfl ?_
      refine e_aload rfl rfl ?_
      refine Eg.p1 rfl (by decide) (by decide) rfl (Nat.le_of_ble_eq_true rfl) (xrcv_of rfl hM.1 rfl) ((ms_isDigit hM r3x (by omega)).mono (by decide)) ?_
      refine e_ifne_f rfl (yn_0.mpr hd) ?_
      refine e_aload rfl rfl ?_
      refine e_ipush rfl ?_
      refine e_iload rfl rfl ?_
      refine Eg.c3 rfl (by decide) (by decide) rfl (Nat.le_of_ble_eq_true rfl) (xrcv_of rfl hM.1 rfl) ((ms_fails hM r3x (k := 0) (q := P2x)).mono (by decide)) (fun r1x h1x hq => ?_)
      obtain ⟨rfl, G, rfl, rG, mG⟩ := hq
      refine e_ipush rfl ?_
      refine e_istore rfl ?_
      refine e_aload rfl rfl ?_
      refine e_getIv rfl hM.1 rG.2.2 ?_
      refine e_ifne_t rfl (fl_ne (by omega)) ?_
      refine e_aload rfl rfl ?_
      refine e_getIv rfl hM.1 rG.2.2 ?_
      refine e_ifne_t rfl (fl_ne (by omega)) ?_
      refine Eg.pk [0, 1, 2, 3] [3, 0, 1, 2] rfl (by decide) ?_
      refine e_aload rfl rfl ?_
      refine e_getR rfl hM.1 (show R 290 36 = some 326 from (hM.2 35 _ rfl).2) ?_
      refine e_iload rfl rfl ?_
      refine e_iload rfl rfl ?_
      refine e_iasJ (t := cn u 1) (n := 3) rfl (show sh[326]? = some (20, 3) from (hM.2 35 _ rfl).1) rfl (by omega) (by decide) (fun J71x g71x f71x => ?_)
      refine e_aload rfl rfl ?_
      refine e_getR rfl hM.1 (show R 290 32 = some 322 from (hM.2 31 _ rfl).2) ?_
      refine e_ipush rfl ?_
      refine e_dup2 rfl ?_
      refine e_ialv (t := 1) (n := 7) rfl (show sh[322]? = some (20, 7) from (hM.2 31 _ rfl).1) rfl (by decide) (by decide) ((f71x 322 1 (by omega)).trans ((mG 322 1 (by decide)).trans s1x)) ?_
      refine e_ipush rfl ?_
      refine e_iadd rfl ?_
      rw [show (nI (cn u 1)) + 1 = nI (cn u 1 + 1) from nI_1 _]
      refine e_iasJ (t := 1) (n := 7) rfl (show sh[322]? = some (20, 7) from (hM.2 31 _ rfl).1) rfl (by decide) (by decide) (fun J72x g72x f72x => ?_)
      exact Eg.ret rfl (by decide) rfl ⟨rfl, J72x, _, rfl, (Mr.nf (Mr.nf rG (fun i t hi => f71x i t (by omega))) (fun i t hi => f72x i t (by omega))), hP2x, fun e => absurd e (fl_ne (by omega)), ((n3x.tr (NF.of mG)).tr (fun i t _ hi => f71x i t (by omega))).tr (fun i t _ hi => f72x i t (by omega)), (f72x 290 57 (Or.inl (by decide))).trans ((f71x 290 57 (Or.inl (by decide))).trans ((mG 290 57 (by decide)).trans h57x))⟩
  · have eR : rwF B n P2x F2x = F2x := rwF_n eF
    rw [eR]
    refine e_aload rfl rfl ?_
    refine e_getIv rfl hM.1 r3x.2.2 ?_
    refine e_ifne_t rfl eF ?_
    refine e_ipush rfl ?_
    refine e_istore rfl ?_
    refine e_aload rfl rfl ?_
    refine e_getIv rfl hM.1 r3x.2.2 ?_
    refine e_ifne_t rfl eF ?_
    refine e_aload rfl rfl ?_
    refine e_getIv rfl hM.1 r3x.2.2 ?_
    refine e_ifne_t rfl eF ?_
    refine Eg.pk [0, 1, 2, 3] [3, 0, 1, 2] rfl (by decide) ?_
    refine e_aload rfl rfl ?_
    refine e_getR rfl hM.1 (show R 290 36 = some 326 from (hM.2 35 _ rfl).2) ?_
    refine e_iload rfl rfl ?_
    refine e_iload rfl rfl ?_
    refine e_iasJ (t := cn u 1) (n := 3) rfl (show sh[326]? = some (20, 3) from (hM.2 35 _ rfl).1) rfl (by omega) (by decide) (fun J81x g81x f81x => ?_)
    refine e_aload rfl rfl ?_
    refine e_getR rfl hM.1 (show R 290 32 = some 322 from (hM.2 31 _ rfl).2) ?_
    refine e_ipush rfl ?_
    refine e_dup2 rfl ?_
    refine e_ialv (t := 1) (n := 7) rfl (show sh[322]? = some (20, 7) from (hM.2 31 _ rfl).1) rfl (by decide) (by decide) ((f81x 322 1 (by omega)).trans s1x) ?_
    refine e_ipush rfl ?_
    refine e_iadd rfl ?_
    rw [show (nI (cn u 1)) + 1 = nI (cn u 1 + 1) from nI_1 _]
    refine e_iasJ (t := 1) (n := 7) rfl (show sh[322]? = some (20, 7) from (hM.2 31 _ rfl).1) rfl (by decide) (by decide) (fun J82x g82x f82x => ?_)
    exact Eg.ret rfl (by decide) rfl ⟨rfl, J82x, _, rfl, (Mr.nf (Mr.nf r3x (fun i t hi => f81x i t (by omega))) (fun i t hi => f82x i t (by omega))), l3x, fun e => absurd e eF, (n3x.tr (fun i t _ hi => f81x i t (by omega))).tr (fun i t _ hi => f82x i t (by omega)), (f82x 290 57 (Or.inl (by decide))).trans ((f81x 290 57 (Or.inl (by decide))).trans h57x)⟩
end MS2x
