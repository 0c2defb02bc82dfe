/-! drawn: the one side whole -/
section DD
variable {X : xX} {h : xH} {sh : List (Nat × Nat)} {I : Nat → Nat → Int32} {L : Nat → Nat → Int64} {R : Nat → Nat → Option Nat} {B : Nat → Nat} {n ri p : Nat} {st : rS}
variable {m s w ru rc : Nat} {v V : Nat → Nat → Int32} {cd : List (Nat × Nat)} {cl : List (Nat × Nat × Nat)} {cds : Nat → List (Nat × Nat)} {cls : Nat → List (Nat × Nat × Nat)} {R' : Nat → Nat → Option Nat}
theorem drT_s {nx : Nat → Nat} {n x k : Nat} : drT nx v cd cl n x (k + 1) = drS nx v cd cl n (drT nx v cd cl n x k) := rfl
def gDrw (v : Nat → Nat → Int32) (rc : Nat) (x km kn kw : Int32) : Prop := ¬ cn v 0 = 0 ∧ ¬ (x < 0 ∨ nI rc ≤ x) ∧ ¬ (km < 1 ∨ 10 < km) ∧ ¬ (kn < 1 ∨ 100 < kn) ∧ ¬ (kw < 0 ∨ 2 < kw)
def aDrw (z : Nat × Int32 × Int32 × Int32) (kw : Int32) : Int32 := if kw = 0 then z.2.1 else if kw = 1 then z.2.2.1 else z.2.2.2
theorem aDrw_0 {z : Nat × Int32 × Int32 × Int32} : aDrw z 0 = z.2.1 := if_pos rfl
theorem aDrw_1 {z : Nat × Int32 × Int32 × Int32} : aDrw z 1 = z.2.2.1 := (if_neg (by decide)).trans (if_pos rfl)
theorem aDrw_2 {z : Nat × Int32 × Int32 × Int32} : aDrw z 2 = z.2.2.2 := (if_neg (by decide)).trans (if_neg (by decide))
theorem kw_3 {kw : Int32} (h : ¬ (kw < 0 ∨ 2 < kw)) : kw = 0 ∨ kw = 1 ∨ kw = 2 := by
  obtain ⟨t, lt, e⟩ := nI_of (x := kw) (fun q => h (Or.inl q))
  have : t ≤ 2 := by
    apply Decidable.byContradiction; intro q
    exact h (Or.inr (by rw [e]; exact (nI_lti (a := 2) (by decide) lt).mpr (by omega)))
  rcases (show t = 0 ∨ t = 1 ∨ t = 2 by omega) with rfl | rfl | rfl
  · exact Or.inl e
  · exact Or.inr (Or.inl e)
  · exact Or.inr (Or.inr e)
theorem cf_drawn {P : Nat → Int32} {a y x13x : Nat} (hq : AQ sh I R w s y v P a) (hC : CrAt sh R) (hRu : RulC sh I R rc cds cls) (r09x : R 0 9 = some 237) (h237x : w + 200 < 237) (hs249x : s + 12 < 237 ∨ 249 < s) (h99x : cn v 7 ≤ 9999) (h13x : v 1 13 = nI x13x) (hx13x : x13x < 2 ^ 31) {x km kn kw : Int32} : Ec X 8 170 [.ref 0, .int x, .int km, .int kn, .int kw] (sh, I, L, R) (fun r h' => (gDrw v rc x km kn kw ∧ r = some (.int (aDrw (drT nxD v (cds x.toNatClampNeg) (cls x.toNatClampNeg) kn.toNatClampNeg x13x km.toNatClampNeg) kw)) ∧ ∃ (J : Nat → Nat → Int32) (M : Nat → Nat → Int64) (S : Nat → Nat → Option Nat), h' = (sh, J, M, S) ∧ (∀ i t, i < 237 ∨ 249 < i → J i t = I i t) ∧ (∀ p q, p < 237 ∨ 239 < p → M p q = L p q) ∧ ∀ p q, p ≠ 241 ∨ q ≠ 0 → S p q = R p q) ∨ (¬ gDrw v rc x km kn kw ∧ r = some (.int (-1)) ∧ h' = (sh, I, L, R))) := by
  obtain ⟨h0x, r7x, hWd, rm, hM, hms, hS, hV, hU, hw, hW⟩ := hq.cq
  obtain ⟨-, -, r12x, hy, hw0x, hwy, hsw, hR, hA, -⟩ := hq
  have hb := hw.1.2
  obtain ⟨s8x, r03x, h04x, rc6x, hat, hrs⟩ := hRu
  have hWV := hA.2.2.2.2.1
  have wx : I w 11 = nI x13x := hWV.2.2.2.2.2.2.trans h13x
  refine Ec.of (Nat.le_of_ble_eq_true rfl) ?_
  refine e_aload rfl rfl ?_
  refine e_getR rfl h0x r7x ?_
  refine e_getR rfl hWd rm ?_
  refine e_getR rfl hM.1 hms ?_
  refine Eg.p1 rfl (by decide) (by decide) rfl (Nat.le_of_ble_eq_true rfl) (xrcv_of rfl hS.1 rfl) ((cs_isThereV hS hV hw).mono (by decide)) ?_
  refine e_ifeq_b rfl (fun b13x => ?_) (fun b13x => ?_)
  · replace b13x := yn_0.mp b13x
    refine e_ipush rfl ?_
    exact Eg.ret rfl (by decide) rfl (Or.inr ⟨fun q => b13x q.1, rfl, rfl⟩)
  · replace b13x := yn_n0.mp b13x
    refine e_aload rfl rfl ?_
    refine e_iload rfl rfl ?_
    refine Eg.p2 rfl (by decide) (by decide) rfl (Nat.le_of_ble_eq_true rfl) (xrcv_of rfl h0x rfl) ((cs_hasRule h0x h04x).mono (by decide)) ?_
    refine e_ifne_b rfl (fun b21x => ?_) (fun b21x => ?_)
    · replace b21x := yn_n0.mp b21x
      refine e_iload rfl rfl ?_
      refine e_ipush rfl ?_
      refine e_ipush rfl ?_
      refine Eg.p3 rfl (by decide) (by decide) rfl (Nat.le_of_ble_eq_true rfl) (xrcv_ofs (Or.inl rfl)) (cs_withinY.mono (by decide)) ?_
      refine e_ifeq_b rfl (fun b33x => ?_) (fun b33x => ?_)
      · replace b33x := yn_0.mp b33x
        refine e_ipush rfl ?_
        exact Eg.ret rfl (by decide) rfl (Or.inr ⟨fun q => b33x q.2.2.1, rfl, rfl⟩)
      · replace b33x := yn_n0.mp b33x
        refine e_iload rfl rfl ?_
        refine e_ipush rfl ?_
        refine e_ipush rfl ?_
        refine Eg.p3 rfl (by decide) (by decide) rfl (Nat.le_of_ble_eq_true rfl) (xrcv_ofs (Or.inl rfl)) (cs_withinY.mono (by decide)) ?_
        refine e_ifeq_b rfl (fun b43x => ?_) (fun b43x => ?_)
        · replace b43x := yn_0.mp b43x
          refine e_ipush rfl ?_
          exact Eg.ret rfl (by decide) rfl (Or.inr ⟨fun q => b43x q.2.2.2.1, rfl, rfl⟩)
        · replace b43x := yn_n0.mp b43x
          refine e_iload rfl rfl ?_
          refine e_ipush rfl ?_
          refine e_ipush rfl ?_
          refine Eg.p3 rfl (by decide) (by decide) rfl (Nat.le_of_ble_eq_true rfl) (xrcv_ofs (Or.inl rfl)) (cs_withinY.mono (by decide)) ?_
          refine e_ifne_b rfl (fun b53x => ?_) (fun b53x => ?_)
          · replace b53x := yn_n0.mp b53x
            refine e_aload rfl rfl ?_
            refine e_getR rfl h0x r09x ?_
            refine e_aload rfl rfl ?_
            refine e_getR rfl h0x r7x ?_
            refine e_getIv rfl hWd wx ?_
            refine Eg.c2 rfl (by decide) (by decide) rfl (Nat.le_of_ble_eq_true rfl) (xrcv_of rfl hC.1 rfl) ((cs_startDraws hC.1).mono (by decide)) (fun r1x h1x hq => ?_)
            obtain ⟨rfl, J0x, M0x, rfl, u1x, u2x, u3x, u4x, u5x, u6x⟩ := hq
            refine e_ipush rfl ?_
            refine e_istore rfl ?_
            refine Eg.pk [0, 1, 2, 3, 4, 5] [5, 0, 1, 2, 3, 4] rfl (by decide) ?_
            have gg : gDrw v rc x km kn kw := ⟨b13x, b21x, b33x, b43x, b53x⟩
            have hk := kw_3 b53x
            obtain ⟨t, ht, rfl⟩ := nI_get b21x (by omega)
            obtain ⟨mm, m1x, m10x, rfl⟩ := get_1 (n := 10) rfl (by decide) b33x
            obtain ⟨n, n1x, n100x, rfl⟩ := get_1 (n := 100) rfl (by decide) b43x
            obtain ⟨ruv, hok⟩ := hrs t ht
            obtain ⟨r8x, hU⟩ := hat t (by omega)
            rw [nI_clamp (n := t) (by omega), nI_clamp (n := mm) (by omega), nI_clamp (n := n) (by omega)]
            refine up_ind (p := fun j => ∀ (J : Nat → Nat → Int32) (M : Nat → Nat → Int64) (S : Nat → Nat → Option Nat), J 237 6 = (drT nxD v (cds t) (cls t) n x13x j).2.1 → J 237 7 = (drT nxD v (cds t) (cls t) n x13x j).2.2.1 → J 237 8 = (drT nxD v (cds t) (cls t) n x13x j).2.2.2 → M 237 5 = lN (drT nxD v (cds t) (cls t) n x13x j).1 → (∀ i t, i < 237 ∨ 249 < i → J i t = I i t) → (∀ p q, p < 237 ∨ 239 < p → M p q = L p q) → (∀ p q, p ≠ 241 ∨ q ≠ 0 → S p q = R p q) → Eg X xTc 7 170 75 [(0, .ref 0), (1, .int (nI t)), (2, .int (nI mm)), (3, .int (nI n)), (4, .int kw), (5, .int (nI j))] [] (sh, J, M, S) (fun r h' => (gDrw v rc (nI t) (nI mm) (nI n) kw ∧ r = some (.int (aDrw (drT nxD v (cds t) (cls t) n x13x mm) kw)) ∧ ∃ (J : Nat → Nat → Int32) (M : Nat → Nat → Int64) (S : Nat → Nat → Option Nat), h' = (sh, J, M, S) ∧ (∀ i t, i < 237 ∨ 249 < i → J i t = I i t) ∧ (∀ p q, p < 237 ∨ 239 < p → M p q = L p q) ∧ ∀ p q, p ≠ 241 ∨ q ≠ 0 → S p q = R p q) ∨ (¬ gDrw v rc (nI t) (nI mm) (nI n) kw ∧ r = some (.int (-1)) ∧ h' = (sh, I, L, R)))) (n := mm) (j := 0) (fun j hj ih J M S z1x z2x z3x z4x z5x z6x z7x => ?_) (fun J M S z1x z2x z3x z4x z5x z6x z7x => ?_) (Nat.zero_le _) J0x M0x R u1x u2x u3x (u4x.trans (nI_l (by omega))) (fun i t q => u5x i t (by omega)) (fun p q r => u6x p q (by omega)) (fun _ _ _ => rfl)
            · have hlt := drT_lt (nx := nxD) (cd := cds t) (cl := cls t) (k := j) (fun _ => nxD_lt) hw hx13x (n := n) (by omega)
              rw [drT_s] at ih
              generalize (drT nxD v (cds t) (cls t) n x13x j) = z at z1x z2x z3x z4x hlt ih
              have r09x : S 0 9 = some 237 := (z7x 0 9 (by omega)).trans r09x
              have r7x : S 0 7 = some w := (z7x 0 7 (by omega)).trans r7x
              have r03x : S 0 3 = some 8 := (z7x 0 3 (by omega)).trans r03x
              have rm : S w 0 = some (w + 12) := (z7x w 0 (by omega)).trans rm
              have r8x : S 8 t = some (260 + 5 * t) := (z7x 8 t (by omega)).trans r8x
              have hC : CrAt sh S := hC.frR (fun k => z7x 237 k (by omega)) (fun k q => z7x 241 k (by omega))
              have hU : RuAt sh S (260 + 5 * t) := hU.frR (fun k => z7x _ k (by omega))
              have hS : SeaAt sh S s := hS.frR (fun k _ => z7x s k (by omega))
              have hM : MomAt sh S (w + 12) := hM.frR (fun k _ => z7x _ k (by omega))
              have hms : S (w + 12) 0 = some s := (z7x _ 0 (by omega)).trans hms
              have hV : SeaV J s v := hV.fr (fun i k q1x q2x => z5x i k (by omega))
              have ruv : RuV J (260 + 5 * t) (cds t) (cls t) := ruv.fr (fun i k q1x q2x => z5x i k (by omega))
              have hW : MomV J (w + 12) v := hW.fr (fun i k q1x q2x => z5x i k (by omega))
              refine e_iload rfl rfl ?_
              refine e_iload rfl rfl ?_
              refine e_cge_f rfl (nI_ge hj (by omega)) ?_
              refine e_aload rfl rfl ?_
              refine e_getR rfl h0x r09x ?_
              refine e_aload rfl rfl ?_
              refine e_getR rfl h0x r7x ?_
              refine e_getR rfl hWd rm ?_
              refine e_aload rfl rfl ?_
              refine e_getR rfl h0x r03x ?_
              refine e_iload rfl rfl ?_
              refine e_aald24 rfl s8x (vp_in_nI (by omega) (by decide)) (by rw [nI_clamp (by omega)]; exact r8x) ?_
              refine e_iload rfl rfl ?_
              refine Eg.c4 rfl (by decide) (by decide) rfl (Nat.le_of_ble_eq_true rfl) (xrcv_of rfl hC.1 rfl) ((cs_drawOnce hC hU ruv hok hS hV hw hM hms hW (by omega) hs249x (by omega) hlt z4x z1x z2x z3x (by omega)).mono (by decide)) (fun r1x h1x hq => ?_)
              obtain ⟨rfl, J2x, M2x, rfl, a1x, a2x, a3x, a4x, a5x, a6x⟩ := hq
              refine e_iinc rfl rfl ?_
              refine e_goto rfl ?_
              refine Eg.pk [0, 1, 2, 3, 4, 5] [5, 0, 1, 2, 3, 4] rfl (by decide) ?_
              rw [nI_1]
              exact ih J2x M2x _ a1x a2x a3x a4x (fun i k q => (a5x i k (by omega) (by omega) (by omega)).trans (z5x i k q)) (fun p q r => (a6x p q (by omega) (by omega) (by omega)).trans (z6x p q r)) (fun p q r => (xu_o r).trans (z7x p q r))
            · have r09x : S 0 9 = some 237 := (z7x 0 9 (by omega)).trans r09x
              refine e_iload rfl rfl ?_
              refine e_iload rfl rfl ?_
              refine e_cge_t rfl (Int32.le_refl _) ?_
              refine e_iload rfl rfl ?_
              rcases hk with rfl | rfl | rfl
              · refine e_lswn (m := 136) rfl (by decide) ?_
                refine e_aload rfl rfl ?_
                refine e_getR rfl h0x r09x ?_
                refine e_getIv rfl hC.1 z1x ?_
                exact Eg.ret rfl (by decide) rfl (Or.inl ⟨gg, congrArg (fun q => some (Value.int q)) aDrw_0.symm, J, M, S, rfl, z5x, z6x, z7x⟩)
              · refine e_lswn (m := 144) rfl (by decide) ?_
                refine e_aload rfl rfl ?_
                refine e_getR rfl h0x r09x ?_
                refine e_getIv rfl hC.1 z2x ?_
                exact Eg.ret rfl (by decide) rfl (Or.inl ⟨gg, congrArg (fun q => some (Value.int q)) aDrw_1.symm, J, M, S, rfl, z5x, z6x, z7x⟩)
              · refine e_lswn (m := 152) rfl (by decide) ?_
                refine e_aload rfl rfl ?_
                refine e_getR rfl h0x r09x ?_
                refine e_getIv rfl hC.1 z3x ?_
                exact Eg.ret rfl (by decide) rfl (Or.inl ⟨gg, congrArg (fun q => some (Value.int q)) aDrw_2.symm, J, M, S, rfl, z5x, z6x, z7x⟩)
          · replace b53x := yn_0.mp b53x
            refine e_ipush rfl ?_
            exact Eg.ret rfl (by decide) rfl (Or.inr ⟨fun q => b53x q.2.2.2.2, rfl, rfl⟩)
    · replace b21x := yn_0.mp b21x
      refine e_ipush rfl ?_
      exact Eg.ret rfl (by decide) rfl (Or.inr ⟨fun q => b21x q.2.1, rfl, rfl⟩)
theorem nI_modz {a b : Nat} (ha : a < 2 ^ 31) (hb : b < 2 ^ 31) : nI a - nI a / nI b * nI b = nI (a % b) := by
  rw [nI_div ha hb, nI_times, nI_sub (Nat.div_mul_le_self a b)]
  congr 1
  have := Nat.mod_add_div a b
  rw [Nat.mul_comm] at this
  omega
theorem ms_draws (hM : MW sh R) {x q : Nat} (h13x : I 291 13 = nI x) (hx : x < 2 ^ 31) (q1x : 1 ≤ q) (q9x : q ≤ 9) : Ec X 1 302 [.ref 290, .int (nI q)] (sh, I, L, R) (fun r h' => r = some (.int (nI (nxD x / 65536 % q))) ∧ ∃ J : Nat → Nat → Int32, h' = (sh, J, L, R) ∧ J 291 13 = nI (nxD x) ∧ ∀ p t, p ≠ 291 ∨ t ≠ 13 → J p t = I p t) := by
  have hy := nxD_lt (x := x)
  have q0x : ¬ nI q = 0 := fun e => by have := congrArg Int32.toNatClampNeg e; rw [nI_clamp (by omega)] at this; exact absurd this (by show ¬ q = 0; omega)
  refine Ec.of (Nat.le_of_ble_eq_true rfl) ?_
  refine e_aload rfl rfl ?_
  refine e_getR rfl hM.1 (show R 290 1 = some 291 from (hM.2 0 _ rfl).2) ?_
  refine e_ipush rfl ?_
  refine e_aload rfl rfl ?_
  refine e_getR rfl hM.1 (show R 290 1 = some 291 from (hM.2 0 _ rfl).2) ?_
  refine e_ipush rfl ?_
  refine e_ialv (t := 13) (n := 14) rfl (show sh[291]? = some (20, 14) from (hM.2 0 _ rfl).1) rfl (by decide) (by decide) h13x ?_
  refine e_i2l rfl ?_
  rw [nI_l (n := x) (by omega)]
  refine e_lpush rfl ?_
  refine e_lmul rfl ?_
  refine e_lpush rfl ?_
  refine e_ladd rfl ?_
  refine e_lpush rfl ?_
  refine e_lrem rfl (by decide) ?_
  rw [show (((lN x) * 1103515245) + 12345) - (((lN x) * 1103515245) + 12345) / 2147483648 * 2147483648 = lN (nxD x) from draw_l hx]
  refine e_l2i rfl ?_
  rw [lN_i]
  refine e_iasJ (t := 13) (n := 14) rfl (show sh[291]? = some (20, 14) from (hM.2 0 _ rfl).1) rfl (by decide) (by decide) (fun J1x g1x f1x => ?_)
  refine e_aload rfl rfl ?_
  refine e_getR rfl hM.1 (show R 290 1 = some 291 from (hM.2 0 _ rfl).2) ?_
  refine e_ipush rfl ?_
  refine e_ialv (t := 13) (n := 14) rfl (show sh[291]? = some (20, 14) from (hM.2 0 _ rfl).1) rfl (by decide) (by decide) g1x ?_
  refine e_ipush rfl ?_
  refine e_idiv rfl (by decide) ?_
  rw [show (nI (nxD x)) / 65536 = nI (nxD x / 65536) from nI_div (b := 65536) hy (by decide)]
  refine e_iload rfl rfl ?_
  refine e_irem rfl q0x ?_
  rw [show (nI (nxD x / 65536)) - (nI (nxD x / 65536)) / (nI q) * (nI q) = nI (nxD x / 65536 % q) from nI_modz (by omega) (by omega)]
  exact Eg.ret rfl (by decide) rfl ⟨rfl, J1x, rfl, g1x, f1x⟩
end DD
