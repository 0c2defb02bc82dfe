/-! voyage: the class, the call -/
section VC4x
variable {X : xX} {h : xH} {sh : List (Nat × Nat)} {I : Nat → Nat → Int32} {L : Nat → Nat → Int64} {R : Nat → Nat → Option Nat} {v : Nat → Nat → Int32} {w s m : Nat}
variable {sp t qa qb qc qd : Nat}
theorem cs_leastDear (hP : PA sh R qa qb qc qd) (hX : MX sh I R m s v) (hw : Wf v) (hs : sp < cn v 4) {to n : Nat} (hto : to < cn v 0) (hn : 1 ≤ n) (hn3x : n ≤ 300) : Ec X 5 56 [.ref 250, .ref m, .int (nI sp), .int (nI to), .int (nI n)] (sh, I, L, R) (fun r h' => ∃ e, r = some (.int (nI e)) ∧ tab 2147483647 (fun e => ∃ w, dS v sp n to w e) e ∧ ∃ (J : Nat → Nat → Int32) (R' : Nat → Nat → Option Nat) (a b c d : Nat), h' = (sh, J, L, R') ∧ PA sh R' a b c d ∧ (∀ i k, i < 250 ∨ 257 < i → J i k = I i k) ∧ (∀ i k, i ≠ 250 → R' i k = R i k)) := by
  have hb := hw.1.2
  have hvs := vS_ok hw hs
  have p0x := hP.1
  refine Ec.of (Nat.le_of_ble_eq_true rfl) ?_
  refine e_aload rfl rfl ?_
  refine e_aload rfl rfl ?_
  refine e_iload rfl rfl ?_
  refine Eg.c3 rfl (by decide) (by decide) rfl (Nat.le_of_ble_eq_true rfl) (xrcv_of rfl p0x rfl) ((cs_start hP hX hw hs).mono (by decide)) (fun r1x h1x hq => ?_)
  obtain ⟨rfl, J1x, rfl, c1x, c2x, c3x⟩ := hq
  have eR1x : ∀ i k, i ≠ 250 → xu R 250 0 (some m) i k = R i k := fun i k q => xu_o (Or.inl q)
  generalize xu R 250 0 (some m) = R1x at c1x eR1x ⊢
  obtain ⟨⟨_, p1x, p2x, p3x, ⟨sa, r6x⟩, ⟨sb, r7x⟩, ⟨sc, r8x⟩, ⟨sd, r9x⟩, qab, qcd⟩, hMX, pm, i1x, i2x⟩ := id c1x
  obtain ⟨hM, hms, hS, hV, hW, dm, ds⟩ := id hMX
  refine e_aload rfl rfl ?_
  refine e_aload rfl rfl ?_
  refine e_getR rfl p0x pm ?_
  refine e_getIv rfl hM.1 c1x.2.1.2.2.2.2.1.1 ?_
  refine Eg.c2 rfl (by decide) (by decide) rfl (Nat.le_of_ble_eq_true rfl) (xrcv_of rfl p0x rfl) ((cs_lookAt c1x hw (t := 0) c2x).mono (by decide)) (fun r1x h1x hq => ?_)
  obtain ⟨rfl, J2x, rfl, l1x, l2x⟩ := hq
  have c4x : CX sh J2x R1x m s v sp qa qb qc qd := c1x.fr (fun i k q => l2x i k (by omega) (by omega) (by omega))
  refine e_aload rfl rfl ?_
  refine Eg.c1 rfl (by decide) (by decide) rfl (Nat.le_of_ble_eq_true rfl) (xrcv_of rfl p0x rfl) ((cs_passFirst c4x hw l1x hs).mono (by decide)) (fun r1x h1x hq => ?_)
  obtain ⟨rfl, J3x, rfl, f1x, f2x⟩ := hq
  have c5x : CX sh J3x R1x m s v sp qa qb qc qd := c4x.fr (fun i k q => f2x i k (by omega))
  have t20x : ∀ c, c < cn v 0 → J3x 252 c = vH v 1 c := fun c hc => (f2x 252 c (by omega)).trans (l1x c hc).2.1
  have fr0x : (∀ i k, i < 250 ∨ 257 < i → J3x i k = I i k) := fun i k q => (f2x i k (by omega)).trans ((l2x i k (by omega) (by omega) (by omega)).trans (c3x i k q))
  refine e_ipush rfl ?_
  refine e_istore rfl ?_
  refine Eg.pk [0, 1, 2, 3, 4, 5] [5, 0, 1, 2, 3, 4] rfl (by decide) ?_
  clear r6x r7x r8x r9x sa sb sc sd p1x p2x p3x hMX pm i1x i2x hM hms hS hV hW f2x l1x l2x c1x c2x c3x c4x
  generalize qc = yc at c5x f1x
  generalize qd = yd at c5x
  refine up_ind (p := fun t => 1 ≤ t → ∀ (J : Nat → Nat → Int32) (R2x : Nat → Nat → Option Nat) (qc qd : Nat), CX sh J R2x m s v sp qa qb qc qd → TB 2147483647 J qc (dS v sp t) → (∀ c, c < cn v 0 → J 252 c = vH v t c) → (∀ i k, i < 250 ∨ 257 < i → J i k = I i k) → (∀ i k, i ≠ 250 → R2x i k = R i k) → Eg X xTc 4 56 24 [(0, .ref 250), (1, .ref m), (2, .int (nI sp)), (3, .int (nI to)), (4, .int (nI n)), (5, .int (nI t))] [] (sh, J, L, R2x) (fun r h' => ∃ e, r = some (.int (nI e)) ∧ tab 2147483647 (fun e => ∃ w, dS v sp n to w e) e ∧ ∃ (J : Nat → Nat → Int32) (R' : Nat → Nat → Option Nat) (a b c d : Nat), h' = (sh, J, L, R') ∧ PA sh R' a b c d ∧ (∀ i k, i < 250 ∨ 257 < i → J i k = I i k) ∧ (∀ i k, i ≠ 250 → R' i k = R i k))) (n := n) (j := 1) (fun t ht ih t1x J R2x qc qd k1x k2x k3x k5x k6x => ?_) (fun t1x J R2x qc qd k1x k2x k3x k5x k6x => ?_) hn (Nat.le_refl _) J3x R1x yc yd c5x f1x t20x fr0x eR1x
  · obtain ⟨⟨_, p1x, p2x, p3x, ⟨sa, r6x⟩, ⟨sb, r7x⟩, ⟨sc, r8x⟩, ⟨sd, r9x⟩, qab, qcd⟩, hMX, pm, i1x, i2x⟩ := id k1x
    obtain ⟨hM, hms, hS, hV, hW, dm, ds⟩ := id hMX
    have db : ∀ c w k, dS v sp t c w k → c < cn v 0 ∧ w ≤ vT v sp ∧ k ≤ 6000000 := fun c w k q => by have := dS_b hw hs q; omega
    refine e_iload rfl rfl ?_
    refine e_iload rfl rfl ?_
    refine e_cge_f rfl (nI_ge ht (by omega)) ?_
    refine e_aload rfl rfl ?_
    refine e_aload rfl rfl ?_
    refine e_getR rfl p0x pm ?_
    refine e_getIv rfl hM.1 k1x.2.1.2.2.2.2.1.1 ?_
    refine e_iload rfl rfl ?_
    refine e_iadd rfl ?_
    rw [show (nI (cn v 7)) + (nI t) = nI (cn v 7 + t) from nI_add _ _]
    refine Eg.c2 rfl (by decide) (by decide) rfl (Nat.le_of_ble_eq_true rfl) (xrcv_of rfl p0x rfl) ((cs_lookAt k1x hw k3x).mono (by decide)) (fun r1x h1x hq => ?_)
    obtain ⟨rfl, J5x, rfl, l1x, l2x⟩ := hq
    have k7x : CX sh J5x R2x m s v sp qa qb qc qd := k1x.fr (fun i k q => l2x i k (by omega) (by omega) (by omega))
    have k8x : TB 2147483647 J5x qc (dS v sp t) := k2x.fr (fun k => l2x qc k (by omega) (by omega) (by omega))
    refine e_aload rfl rfl ?_
    refine Eg.c1 rfl (by decide) (by decide) rfl (Nat.le_of_ble_eq_true rfl) (xrcv_of rfl p0x rfl) ((cs_fillDear k7x hw l1x hs k8x db).mono (by decide)) (fun r1x h1x hq => ?_)
    obtain ⟨rfl, J6x, rfl, m1x, m2x⟩ := hq
    have k9x : CX sh J6x R2x m s v sp qa qb qc qd := k7x.fr (fun i k q => m2x i k (by omega))
    have l3x : PH J6x v t := l1x.fr (fun i k q1x q2x => m2x i k (by omega))
    refine e_aload rfl rfl ?_
    refine Eg.c1 rfl (by decide) (by decide) rfl (Nat.le_of_ble_eq_true rfl) (xrcv_of rfl p0x rfl) ((cs_passDear k9x hw l3x hs m1x).mono (by decide)) (fun r1x h1x hq => ?_)
    obtain ⟨rfl, J7x, rfl, n1x, n2x⟩ := hq
    refine e_iinc rfl rfl ?_
    refine e_goto rfl ?_
    refine Eg.pk [0, 1, 2, 3, 4, 5] [5, 0, 1, 2, 3, 4] rfl (by decide) ?_
    rw [nI_1]
    exact ih (by omega) J7x _ qd qc (k9x.sw8.fr (fun i k q => n2x i k (by omega))) (n1x.iff (fun a b q _ _ => NE_all t1x (fun c w k q => ⟨(db c w k q).1, (db c w k q).2.1⟩) hvs.2.2.2.2.2.1)) (fun c hc => (n2x 252 c (by omega)).trans (l3x c hc).2.1) (fun i k q => (n2x i k (by omega)).trans ((m2x i k (by omega)).trans ((l2x i k (by omega) (by omega) (by omega)).trans (k5x i k q)))) (fun i k q => by rw [xu_o (Or.inl q), xu_o (Or.inl q)]; exact k6x i k q)
  · obtain ⟨⟨_, p1x, p2x, p3x, ⟨sa, r6x⟩, ⟨sb, r7x⟩, ⟨sc, r8x⟩, ⟨sd, r9x⟩, qab, qcd⟩, hMX, pm, i1x, i2x⟩ := id k1x
    obtain ⟨hM, hms, hS, hV, hW, dm, ds⟩ := id hMX
    have db : ∀ c w k, dS v sp n c w k → c < cn v 0 ∧ w ≤ vT v sp := fun c w k q => ⟨(dS_b hw hs q).1, (dS_b hw hs q).2.1⟩
    refine e_iload rfl rfl ?_
    refine e_iload rfl rfl ?_
    refine e_cge_t rfl (Int32.le_refl _) ?_
    refine e_ipush rfl ?_
    refine e_istore rfl ?_
    refine e_ipush rfl ?_
    refine e_istore rfl ?_
    refine Eg.pk [0, 1, 2, 3, 4, 5, 6] [6, 5, 0, 1, 2, 3, 4] rfl (by decide) ?_
    refine up_ind (p := fun w => ∀ y, tab 2147483647 (fun e => ∃ i, i < w ∧ dS v sp n to i e) y → Eg X xTc 4 56 66 [(0, .ref 250), (1, .ref m), (2, .int (nI sp)), (3, .int (nI to)), (4, .int (nI n)), (5, .int (nI y)), (6, .int (nI w))] [] (sh, J, L, R2x) (fun r h' => ∃ e, r = some (.int (nI e)) ∧ tab 2147483647 (fun e => ∃ w, dS v sp n to w e) e ∧ ∃ (J : Nat → Nat → Int32) (R' : Nat → Nat → Option Nat) (a b c d : Nat), h' = (sh, J, L, R') ∧ PA sh R' a b c d ∧ (∀ i k, i < 250 ∨ 257 < i → J i k = I i k) ∧ (∀ i k, i ≠ 250 → R' i k = R i k))) (n := vT v sp + 1) (j := 0) (fun w hw1x iw y z1x => ?_) (fun y z1x => ?_) (Nat.zero_le _) 2147483647 (tab_no (fun k ⟨i, q, _⟩ => by omega))
    · obtain ⟨x, ex, tx⟩ := k2x to (by omega) w (by omega)
      have xb := tx.1
      have yb := z1x.1
      have z := tab_iff (tab_or z1x tx) (fun k => ex_s (P := fun i => dS v sp n to i k))
      refine e_iload rfl rfl ?_
      refine e_aload rfl rfl ?_
      refine e_getIv rfl p0x k1x.2.2.2.2 ?_
      refine e_cgt_f rfl (fun q => absurd ((nI_lti (by omega) (by omega)).mp q) (by omega)) ?_
      refine e_iload rfl rfl ?_
      refine e_aload rfl rfl ?_
      refine e_getR rfl p0x r8x ?_
      refine e_iload rfl rfl ?_
      refine e_ipush rfl ?_
      refine e_imul rfl ?_
      rw [show (nI to) * (31 : Int32) = nI (31 * to) from (nI_mc (a := to) (b := 31))]
      refine e_iload rfl rfl ?_
      refine e_iadd rfl ?_
      rw [show (nI (31 * to)) + (nI w) = nI (31 * to + w) from nI_add _ _]
      refine e_ialv (t := 31 * to + w) (n := 372) rfl sc rfl (by omega) (by decide) ex ?_
      refine e_min rfl (Nat.le_of_ble_eq_true rfl) ?_
      rw [show (if nI x < nI y then nI x else nI y) = nI (if x < y then x else y) from nI_mn (by omega) (by omega)]
      refine e_istore rfl ?_
      refine e_iinc rfl rfl ?_
      refine e_goto rfl ?_
      refine Eg.pk [0, 1, 2, 3, 4, 5, 6] [6, 5, 0, 1, 2, 3, 4] rfl (by decide) ?_
      rw [nI_1]
      exact iw _ z
    · refine e_iload rfl rfl ?_
      refine e_aload rfl rfl ?_
      refine e_getIv rfl p0x k1x.2.2.2.2 ?_
      refine e_cgt_t rfl ((nI_lti (by omega) (by omega)).mpr (by omega)) ?_
      refine e_iload rfl rfl ?_
      exact Eg.ret rfl (by decide) rfl ⟨y, rfl, tab_iff z1x (fun k => ⟨fun ⟨i, _, q⟩ => ⟨i, q⟩, fun ⟨i, q⟩ => ⟨i, by have := (db _ _ _ q).2; omega, q⟩⟩), J, R2x, qa, qb, qc, qd, rfl, k1x.1, k5x, k6x⟩
theorem cs_coinsOf {e : Nat} (he : e < 2 ^ 31) : Ec X 1 52 [.int (nI e)] h (fun r h' => r = some (.int (nI (e / 6))) ∧ h' = h) := by
  refine Ec.of (Nat.le_of_ble_eq_true rfl) ?_
  refine e_iload rfl rfl ?_
  refine e_ipush rfl ?_
  refine e_idiv rfl (by decide) ?_
  rw [show (nI e) / 6 = nI (e / 6) from nI_div (b := 6) he (by decide)]
  exact Eg.ret rfl (by decide) rfl ⟨rfl, rfl⟩
theorem cs_goingOf {e : Nat} (he : e < 2 ^ 31) : Ec X 1 53 [.int (nI e)] h (fun r h' => r = some (.int (wy (e % 6 / 2))) ∧ h' = h) := by
  refine Ec.of (Nat.le_of_ble_eq_true rfl) ?_
  refine e_iload rfl rfl ?_
  refine e_ipush rfl ?_
  refine e_irem rfl (by decide) ?_
  rw [show (nI e) - (nI e) / 6 * 6 = nI (e % 6) from nI_modz (b := 6) he (by decide)]
  refine e_ipush rfl ?_
  refine e_idiv rfl (by decide) ?_
  rw [show (nI (e % 6)) / 2 = nI (e % 6 / 2) from nI_div (b := 2) (by omega) (by decide)]
  refine e_ipush rfl ?_
  refine e_isub rfl ?_
  exact Eg.ret rfl (by decide) rfl ⟨rfl, rfl⟩
theorem cs_fillOf {e : Nat} (he : e < 2 ^ 31) : Ec X 1 54 [.int (nI e)] h (fun r h' => r = some (.int (nI (e % 6 % 2))) ∧ h' = h) := by
  rw [show e % 6 % 2 = e % 2 by omega]
  refine Ec.of (Nat.le_of_ble_eq_true rfl) ?_
  refine e_iload rfl rfl ?_
  refine e_ipush rfl ?_
  refine e_irem rfl (by decide) ?_
  rw [show (nI e) - (nI e) / 2 * 2 = nI (e % 2) from nI_modz (b := 2) he (by decide)]
  exact Eg.ret rfl (by decide) rfl ⟨rfl, rfl⟩
theorem cf_voyage (hq : CQ sh I R w m s v) (hP : PA sh R qa qb qc qd) (r10x : R 0 10 = some 250) (dm : m + 8 < 250 ∨ 257 < m) (ds : s + 12 < 250 ∨ 257 < s) {x y kw : Int32} (w0x : w ≠ 250) : Ec X 6 157 [.ref 0, .int x, .int y, .int kw] (sh, I, L, R) (fun r h' => ∃ z, r = some (.int z) ∧ QVoy v x y kw z ∧ ∃ (J : Nat → Nat → Int32) (R' : Nat → Nat → Option Nat) (a b c d : Nat), h' = (sh, J, L, R') ∧ PA sh R' a b c d ∧ (∀ i k, i < 250 ∨ 257 < i → J i k = I i k) ∧ (∀ i k, i ≠ 250 → R' i k = R i k)) := by
  obtain ⟨h0x, r7x, hWd, rm, hM, hms, hS, hV, hU, hw, hW⟩ := hq
  have hb := hw.1.2
  have hX : MX sh I R m s v := ⟨hM, hms, hS, hV, hW, dm, ds⟩
  have p0x := hP.1
  refine Ec.of (Nat.le_of_ble_eq_true rfl) ?_
  refine e_aload rfl rfl ?_
  refine e_getR rfl h0x r7x ?_
  refine e_getR rfl hWd rm ?_
  refine e_astore rfl ?_
  refine e_aload rfl rfl ?_
  refine e_getR rfl hM.1 hms ?_
  refine e_iload rfl rfl ?_
  refine Eg.p2 rfl (by decide) (by decide) rfl (Nat.le_of_ble_eq_true rfl) (xrcv_of rfl hS.1 rfl) ((cs_hasShipV hS hV).mono (by decide)) ?_
  refine e_ifeq_b rfl (fun b18x => ?_) (fun b18x => ?_)
  · replace b18x := yn_0.mp b18x
    refine e_ipush rfl ?_
    exact Eg.ret rfl (by decide) rfl ⟨_, rfl, Or.inr ⟨fun q => b18x q.1, rfl⟩, I, R, qa, qb, qc, qd, rfl, hP, fun _ _ _ => rfl, fun _ _ _ => rfl⟩
  · replace b18x := yn_n0.mp b18x
    obtain ⟨sp, hs, rfl⟩ := nI_get b18x (by omega)
    refine e_aload rfl rfl ?_
    refine e_getR rfl hM.1 hms ?_
    refine e_iload rfl rfl ?_
    refine Eg.p2 rfl (by decide) (by decide) rfl (Nat.le_of_ble_eq_true rfl) (xrcv_of rfl hS.1 rfl) ((cs_hasCellV hS hV).mono (by decide)) ?_
    refine e_ifeq_b rfl (fun b30x => ?_) (fun b30x => ?_)
    · replace b30x := yn_0.mp b30x
      refine e_ipush rfl ?_
      exact Eg.ret rfl (by decide) rfl ⟨_, rfl, Or.inr ⟨fun q => b30x q.2.1, rfl⟩, I, R, qa, qb, qc, qd, rfl, hP, fun _ _ _ => rfl, fun _ _ _ => rfl⟩
    · replace b30x := yn_n0.mp b30x
      obtain ⟨to, hto, rfl⟩ := nI_get b30x (by omega)
      refine e_aload rfl rfl ?_
      refine e_iload rfl rfl ?_
      refine Eg.p2 rfl (by decide) (by decide) rfl (Nat.le_of_ble_eq_true rfl) (xrcv_of rfl hM.1 rfl) ((cs_isDry hS hV hw hM hms hW (k := sp) hs).mono (by decide)) ?_
      refine e_ifne_b rfl (fun b39x => ?_) (fun b39x => ?_)
      · replace b39x := yn_n0.mp b39x
        refine e_ipush rfl ?_
        exact Eg.ret rfl (by decide) rfl ⟨_, rfl, Or.inr ⟨fun q => b39x (by have := q.2.2.1; rwa [nI_clamp (by omega)] at this), rfl⟩, I, R, qa, qb, qc, qd, rfl, hP, fun _ _ _ => rfl, fun _ _ _ => rfl⟩
      · replace b39x := yn_0.mp b39x
        refine e_iload rfl rfl ?_
        refine e_ipush rfl ?_
        refine e_ipush rfl ?_
        refine Eg.p3 rfl (by decide) (by decide) rfl (Nat.le_of_ble_eq_true rfl) (xrcv_ofs (Or.inl rfl)) (cs_withinY.mono (by decide)) ?_
        refine e_ifne_b rfl (fun b48x => ?_) (fun b48x => ?_)
        · replace b48x := yn_n0.mp b48x
          refine e_aload rfl rfl ?_
          refine e_getR rfl h0x r10x ?_
          refine e_aload rfl rfl ?_
          refine e_iload rfl rfl ?_
          refine e_iload rfl rfl ?_
          refine Eg.c4 rfl (by decide) (by decide) rfl (Nat.le_of_ble_eq_true rfl) (xrcv_of rfl p0x rfl) ((cs_soonest hP hX hw hs hto).mono (by decide)) (fun r1x h1x hq => ?_)
          obtain ⟨x, rfl, o1x, J1x, R1x, a1x, b1x, rfl, o2x, o3x, o4x⟩ := hq
          rcases o1x with ⟨rfl, u1x⟩ | ⟨t, t3x, rfl, u2x, u1x⟩
          · skip
            refine e_istore rfl ?_
            refine e_iload rfl rfl ?_
            refine e_ipush rfl ?_
            refine e_cne_f rfl rfl ?_
            refine e_ipush rfl ?_
            have gg : gVoy v (nI sp) (nI to) _ := ⟨b18x, b30x, by rw [nI_clamp (by omega)]; exact Decidable.byContradiction (fun q => b39x q), b48x⟩
            exact Eg.ret rfl (by decide) rfl ⟨_, rfl, Or.inl ⟨gg, by rw [nI_clamp (by omega), nI_clamp (by omega)]; exact Or.inr ⟨fun q => u1x 0 (by omega) (vW v sp) (by rw [← q]; exact uS_0.mpr ⟨rfl, rfl⟩), Or.inl ⟨VQ_none u1x, rfl⟩⟩⟩, J1x, R1x, a1x, b1x, qc, qd, rfl, o2x, o3x, o4x⟩
          · have gX : MX sh J1x R1x m s v := hX.fr o3x o4x
            refine e_istore rfl ?_
            refine e_iload rfl rfl ?_
            refine e_ipush rfl ?_
            refine e_cne_t rfl (nI_m1' (by omega)) ?_
            refine e_iload rfl rfl ?_
            refine e_ifne_b rfl (fun b77x => ?_) (fun b77x => ?_)
            · refine e_iload rfl rfl ?_
              refine e_ifne_b rfl (fun b91x => ?_) (fun b91x => ?_)
              · have t0x : t ≠ 0 := fun q => b91x (by rw [q]; rfl)
                refine e_aload rfl rfl ?_
                refine e_getR rfl h0x ((o4x 0 10 (by decide)).trans r10x) ?_
                refine e_aload rfl rfl ?_
                refine e_iload rfl rfl ?_
                refine e_iload rfl rfl ?_
                refine e_iload rfl rfl ?_
                refine Eg.c5 rfl (by decide) (by decide) rfl (Nat.le_of_ble_eq_true rfl) (xrcv_of rfl p0x rfl) ((cs_leastDear o2x gX hw hs hto (n := t) (by omega) t3x).mono (by decide)) (fun r1x h1x hq => ?_)
                obtain ⟨e, rfl, d1x, J2x, R2x, a2x, b2x, c2x, d2x, rfl, d3x, d4x, d5x⟩ := hq
                have eb := d1x.1
                refine e_istore rfl ?_
                refine e_iload rfl rfl ?_
                rcases kw_4 b48x with rfl | rfl | rfl | rfl
                · exact absurd rfl b77x
                · refine e_lswn (m := 148) rfl (by decide) ?_
                  refine e_iload rfl rfl ?_
                  refine Eg.p1 rfl (by decide) (by decide) rfl (Nat.le_of_ble_eq_true rfl) (xrcv_ofs (Or.inl rfl)) ((cs_coinsOf (e := e) (by omega)).mono (by decide)) ?_
                  have gg : gVoy v (nI sp) (nI to) _ := ⟨b18x, b30x, by rw [nI_clamp (by omega)]; exact Decidable.byContradiction (fun q => b39x q), b48x⟩
                  have ne : vC v sp ≠ to := fun q => u1x 0 (by omega) (vW v sp) (by rw [← q]; exact uS_0.mpr ⟨rfl, rfl⟩)
                  exact Eg.ret rfl (by decide) rfl ⟨_, rfl, Or.inl ⟨gg, by rw [nI_clamp (by omega), nI_clamp (by omega)]; exact Or.inr ⟨ne, Or.inr ⟨t, e / 6, e % 6, VQ_class hw hs ne (by omega) t3x u1x u2x d1x, rfl⟩⟩⟩, J2x, R2x, a2x, b2x, c2x, d2x, rfl, d3x, (fun i k q => (d4x i k q).trans (o3x i k q)), fun i k q => (d5x i k q).trans (o4x i k q)⟩
                · refine e_lswn (m := 154) rfl (by decide) ?_
                  refine e_iload rfl rfl ?_
                  refine Eg.p1 rfl (by decide) (by decide) rfl (Nat.le_of_ble_eq_true rfl) (xrcv_ofs (Or.inl rfl)) ((cs_goingOf (e := e) (by omega)).mono (by decide)) ?_
                  have gg : gVoy v (nI sp) (nI to) _ := ⟨b18x, b30x, by rw [nI_clamp (by omega)]; exact Decidable.byContradiction (fun q => b39x q), b48x⟩
                  have ne : vC v sp ≠ to := fun q => u1x 0 (by omega) (vW v sp) (by rw [← q]; exact uS_0.mpr ⟨rfl, rfl⟩)
                  exact Eg.ret rfl (by decide) rfl ⟨_, rfl, Or.inl ⟨gg, by rw [nI_clamp (by omega), nI_clamp (by omega)]; exact Or.inr ⟨ne, Or.inr ⟨t, e / 6, e % 6, VQ_class hw hs ne (by omega) t3x u1x u2x d1x, rfl⟩⟩⟩, J2x, R2x, a2x, b2x, c2x, d2x, rfl, d3x, (fun i k q => (d4x i k q).trans (o3x i k q)), fun i k q => (d5x i k q).trans (o4x i k q)⟩
                · refine e_lswn (m := 160) rfl (by decide) ?_
                  refine e_iload rfl rfl ?_
                  refine Eg.p1 rfl (by decide) (by decide) rfl (Nat.le_of_ble_eq_true rfl) (xrcv_ofs (Or.inl rfl)) ((cs_fillOf (e := e) (by omega)).mono (by decide)) ?_
                  have gg : gVoy v (nI sp) (nI to) _ := ⟨b18x, b30x, by rw [nI_clamp (by omega)]; exact Decidable.byContradiction (fun q => b39x q), b48x⟩
                  have ne : vC v sp ≠ to := fun q => u1x 0 (by omega) (vW v sp) (by rw [← q]; exact uS_0.mpr ⟨rfl, rfl⟩)
                  exact Eg.ret rfl (by decide) rfl ⟨_, rfl, Or.inl ⟨gg, by rw [nI_clamp (by omega), nI_clamp (by omega)]; exact Or.inr ⟨ne, Or.inr ⟨t, e / 6, e % 6, VQ_class hw hs ne (by omega) t3x u1x u2x d1x, rfl⟩⟩⟩, J2x, R2x, a2x, b2x, c2x, d2x, rfl, d3x, (fun i k q => (d4x i k q).trans (o3x i k q)), fun i k q => (d5x i k q).trans (o4x i k q)⟩
              · refine e_iload rfl rfl ?_
                refine e_ipush rfl ?_
                refine e_cne_b rfl (fun b96x => ?_) (fun b96x => ?_)
                · refine e_ipush rfl ?_
                  have gg : gVoy v (nI sp) (nI to) _ := ⟨b18x, b30x, by rw [nI_clamp (by omega)]; exact Decidable.byContradiction (fun q => b39x q), b48x⟩
                  have t0x : t = 0 := (nI_ij (b := 0) (by omega) (by decide)).mp b91x
                  subst t0x
                  obtain ⟨w1x, u3x⟩ := u2x
                  have cc := (uS_0.mp u3x).1
                  exact Eg.ret rfl (by decide) rfl ⟨_, rfl, Or.inl ⟨gg, by rw [nI_clamp (by omega), nI_clamp (by omega)]; exact Or.inl ⟨cc.symm, ((if_neg b77x).trans (if_neg b96x)).symm⟩⟩, J1x, R1x, a1x, b1x, qc, qd, rfl, o2x, o3x, o4x⟩
                · refine e_ipush rfl ?_
                  refine e_goto rfl ?_
                  have gg : gVoy v (nI sp) (nI to) _ := ⟨b18x, b30x, by rw [nI_clamp (by omega)]; exact Decidable.byContradiction (fun q => b39x q), b48x⟩
                  have t0x : t = 0 := (nI_ij (b := 0) (by omega) (by decide)).mp b91x
                  subst t0x
                  obtain ⟨w1x, u3x⟩ := u2x
                  have cc := (uS_0.mp u3x).1
                  exact Eg.ret rfl (by decide) rfl ⟨_, rfl, Or.inl ⟨gg, by rw [nI_clamp (by omega), nI_clamp (by omega)]; exact Or.inl ⟨cc.symm, ((if_neg b77x).trans (if_pos b96x)).symm⟩⟩, J1x, R1x, a1x, b1x, qc, qd, rfl, o2x, o3x, o4x⟩
            · refine e_aload rfl rfl ?_
              refine e_getIv rfl hM.1 ((o3x m 1 (by omega)).trans hW.1) ?_
              refine e_iload rfl rfl ?_
              refine e_iadd rfl ?_
              rw [show (nI (cn v 7)) + (nI t) = nI (cn v 7 + t) from nI_add _ _]
              have gg : gVoy v (nI sp) (nI to) _ := ⟨b18x, b30x, by rw [nI_clamp (by omega)]; exact Decidable.byContradiction (fun q => b39x q), b48x⟩
              by_cases t0x : t = 0
              · subst t0x; obtain ⟨w1x, u3x⟩ := u2x; have cc := (uS_0.mp u3x).1
                exact Eg.ret rfl (by decide) rfl ⟨_, rfl, Or.inl ⟨gg, by rw [nI_clamp (by omega), nI_clamp (by omega)]; exact Or.inl ⟨cc.symm, (if_pos b77x).symm⟩⟩, J1x, R1x, a1x, b1x, qc, qd, rfl, o2x, o3x, o4x⟩
              · obtain ⟨e, te⟩ := tab_ex (inf := 2147483647) (P := fun e => ∃ w, dS v sp t to w e)
                have ne : vC v sp ≠ to := fun q => u1x 0 (by omega) (vW v sp) (by rw [← q]; exact uS_0.mpr ⟨rfl, rfl⟩)
                exact Eg.ret rfl (by decide) rfl ⟨_, rfl, Or.inl ⟨gg, by rw [nI_clamp (by omega), nI_clamp (by omega)]; exact Or.inr ⟨ne, Or.inr ⟨t, e / 6, e % 6, VQ_class hw hs ne (by omega) t3x u1x u2x te, (if_pos b77x).symm⟩⟩⟩, J1x, R1x, a1x, b1x, qc, qd, rfl, o2x, o3x, o4x⟩
        · replace b48x := yn_0.mp b48x
          refine e_ipush rfl ?_
          exact Eg.ret rfl (by decide) rfl ⟨_, rfl, Or.inr ⟨fun q => b48x q.2.2.2, rfl⟩, I, R, qa, qb, qc, qd, rfl, hP, fun _ _ _ => rfl, fun _ _ _ => rfl⟩
end VC4x
