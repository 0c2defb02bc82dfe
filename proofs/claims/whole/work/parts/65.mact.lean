/-! ACTS, the other side: the calls -/
section MA
variable {X : xX} {h : xH} {sh : List (Nat × Nat)} {I : Nat → Nat → Int32} {L : Nat → Nat → Int64} {R : Nat → Nat → Option Nat} {v : Nat → Nat → Int32} {w s m : Nat}
def MACT (sh : List (Nat × Nat)) (I : Nat → Nat → Int32) (L : Nat → Nat → Int64) (R : Nat → Nat → Option Nat) (v : Nat → Nat → Int32) (P : Nat → Int32) (a : Nat) (h' : xH) : Prop := ∃ J : Nat → Nat → Int32, h' = (sh, J, L, R) ∧ mV J v ∧ (∀ x, J 348 x = P x) ∧ J 290 71 = nI a ∧ (∀ k, k < 4 → J 309 k = 0) ∧ (∀ i x, i < 290 ∨ 321 < i → i ≠ 348 → J i x = I i x) ∧ ∀ x, x ≠ 71 → x ≠ 72 → x ≠ 73 → J 290 x = I 290 x
def MRq (sh : List (Nat × Nat)) (I : Nat → Nat → Int32) (R : Nat → Nat → Option Nat) (v : Nat → Nat → Int32) (P : Nat → Int32) (a : Nat) : Prop := MW sh R ∧ mV I v ∧ Wf v ∧ (∀ x, I 348 x = P x) ∧ I 290 71 = nI a ∧ a ≤ 20 ∧ ∀ k, k < 4 → I 309 k = 0
theorem way3 {z : Int32} (h : ¬ (z < -1 ∨ 1 < z)) : z = 0 ∨ z = 1 ∨ z = -1 := by
  have h1 : ¬ z.toInt < -1 := fun q => h (Or.inl (Int32.lt_iff_toInt_lt.mpr (by rw [show (-1 : Int32).toInt = -1 by decide]; exact q)))
  have h2 : ¬ 1 < z.toInt := fun q => h (Or.inr (Int32.lt_iff_toInt_lt.mpr (by rw [show (1 : Int32).toInt = 1 by decide]; exact q)))
  have h3 : z.toInt = 0 ∨ z.toInt = 1 ∨ z.toInt = -1 := by omega
  rcases h3 with e | e | e
  · exact Or.inl (Int32.toInt_inj.mp (by rw [e]; decide))
  · exact Or.inr (Or.inl (Int32.toInt_inj.mp (by rw [e]; decide)))
  · exact Or.inr (Or.inr (Int32.toInt_inj.mp (by rw [e]; decide)))
theorem way3' {z : Int32} (h : z = 0 ∨ z = 1 ∨ z = -1) : ¬ (z < -1 ∨ 1 < z) := by
  rcases h with rfl | rfl | rfl <;> decide
theorem xu_comm {V : Nat → Nat → Int32} {f i f' i' : Nat} {x x' : Int32} (h : f ≠ f' ∨ i ≠ i') : xu (xu V f i x) f' i' x' = xu (xu V f' i' x') f i x := by
  funext a b
  by_cases e : a = f ∧ b = i
  · obtain ⟨rfl, rfl⟩ := e
    rw [xu_at, xu_o (by omega), xu_at]
  · by_cases e' : a = f' ∧ b = i'
    · obtain ⟨rfl, rfl⟩ := e'
      rw [xu_at, xu_o (by omega), xu_at]
    · rw [xu_o (by omega), xu_o (by omega), xu_o (by omega), xu_o (by omega)]
theorem dayF_wn {g : Nat → Int32} (hw : Wf v) : dayF v g 1 7 = nI (cn (dayF v g) 7) := by
  have hb := hw.1.2
  rw [dayF_7 (by omega)]; exact xu_at
theorem md_sail {P : Nat → Int32} {a : Nat} (hq : MRq sh I R v P a) {x z : Int32} : Ec X 6 254 [.ref 290, .int x, .int z] (sh, I, L, R) (fun r h' => (gSail v x z ∧ r = some (.int (nI (cn v 7 + 1))) ∧ MACT sh I L R (dayF v (one x.toNatClampNeg z)) (remP v P a) (remB a + 1) h') ∨ (¬ gSail v x z ∧ r = some (.int (-1)) ∧ h' = (sh, I, L, R))) := by
  obtain ⟨hM, hv, hw, hP, h71, ha, hg0⟩ := hq
  have hb := hw.1.2
  refine Ec.of (Nat.le_of_ble_eq_true rfl) ?_
  refine e_aload rfl rfl ?_
  refine e_iload rfl rfl ?_
  refine Eg.p2 rfl (by decide) (by decide) rfl (Nat.le_of_ble_eq_true rfl) (xrcv_of rfl hM.1 rfl) ((ms_isShip hM hv hw).mono (by decide)) ?_
  refine e_ifeq_b rfl (fun b5 => ?_) (fun b5 => ?_)
  · replace b5 := yn_0.mp b5
    refine e_ipush rfl ?_
    exact Eg.ret rfl (by decide) rfl (Or.inr ⟨fun q => b5 q.1, rfl, rfl⟩)
  · replace b5 := yn_n0.mp b5
    obtain ⟨t, ht, et⟩ := nI_get b5 (by omega)
    subst et
    refine e_iload rfl rfl ?_
    refine e_i2l rfl ?_
    refine e_lpush rfl ?_
    refine e_lpush rfl ?_
    refine Eg.p3 rfl (by decide) (by decide) rfl (Nat.le_of_ble_eq_true rfl) (xrcv_ofs (Or.inl rfl)) ((ms_inv (x := z) (y := (-1)) (z := 1) rfl (by decide) (by decide)).mono (by decide)) ?_
    refine e_ifeq_b rfl (fun b17 => ?_) (fun b17 => ?_)
    · replace b17 := yn_0.mp b17
      refine e_ipush rfl ?_
      exact Eg.ret rfl (by decide) rfl (Or.inr ⟨fun q => by unfold gSail at q; rw [nI_clamp (by omega)] at q; exact b17 (way3' (q.2.2.2.imp id (fun q => q.1))), rfl, rfl⟩)
    · replace b17 := yn_n0.mp b17
      refine e_aload rfl rfl ?_
      refine e_getR rfl hM.1 (show R 290 18 = some 308 from (hM.2 17 _ rfl).2) ?_
      refine e_iload rfl rfl ?_
      refine e_ialv (t := t) (n := 4) rfl (show sh[308]? = some (20, 4) from (hM.2 17 _ rfl).1) rfl (by omega) (by decide) (hv 18 t (by decide)) ?_
      refine e_ipush rfl ?_
      refine e_cne_b rfl (fun b27 => ?_) (fun b27 => ?_)
      · refine e_ipush rfl ?_
        exact Eg.ret rfl (by decide) rfl (Or.inr ⟨fun q => by unfold gSail at q; rw [nI_clamp (by omega)] at q; exact b27 q.2.1, rfl, rfl⟩)
      · refine e_aload rfl rfl ?_
        refine e_getR rfl hM.1 (show R 290 1 = some 291 from (hM.2 0 _ rfl).2) ?_
        refine e_ipush rfl ?_
        refine e_ialv (t := 7) (n := 14) rfl (show sh[291]? = some (20, 14) from (hM.2 0 _ rfl).1) rfl (by decide) (by decide) (hv.n hw (j := 7) (by decide)) ?_
        refine e_ipush rfl ?_
        refine e_ceq_b rfl (fun b40 => ?_) (fun b40 => ?_)
        · have b40 : cn v 7 = 9999 := (nI_eq (b := 9999) (by omega) (by decide)).mp b40
          refine e_ipush rfl ?_
          exact Eg.ret rfl (by decide) rfl (Or.inr ⟨fun q => by unfold gSail at q; rw [nI_clamp (by omega)] at q; exact q.2.2.1 b40, rfl, rfl⟩)
        · have b40 : ¬ cn v 7 = 9999 := fun q => b40 (by rw [q]; rfl)
          refine e_iload rfl rfl ?_
          refine e_ifeq_b rfl (fun b44 => ?_) (fun b44 => ?_)
          · have gg : gSail v (nI t) z := by
              unfold gSail; rw [nI_clamp (by omega)]
              exact ⟨b5, b27, b40, Or.inl b44⟩
            refine e_aload rfl rfl ?_
            refine Eg.c1 rfl (by decide) (by decide) rfl (Nat.le_of_ble_eq_true rfl) (xrcv_of rfl hM.1 rfl) ((ms_keepsAct (P := P) (a := a) hM hv hP h71 ha).mono (by decide)) (fun r1 h1 hq => ?_)
            obtain ⟨rfl, I1, rfl, hv1, hP1, h711, k1, k2, k3⟩ := hq
            refine e_aload rfl rfl ?_
            refine e_getR rfl hM.1 (show R 290 19 = some 309 from (hM.2 18 _ rfl).2) ?_
            refine e_iload rfl rfl ?_
            refine e_iload rfl rfl ?_
            refine e_iasJ (t := t) (n := 4) rfl (show sh[309]? = some (20, 4) from (hM.2 18 _ rfl).1) rfl (by omega) (by decide) (fun J1 g1 f1 => ?_)
            refine e_aload rfl rfl ?_
            have hwt : ∀ k, k < cn v 4 → ∃ q, q < 2 ^ 31 ∧ v 14 k = nI q := by
              intro k hk
              obtain ⟨x0, y0, m, b, b1, b2, b3, b4, b5, b6, b7, b8, b9⟩ := hw.2.2.2.2 k hk
              exact ⟨y0, by omega, b3⟩
            have hgk : ∀ k, k < cn v 4 → J1 309 k = one t z k := by
              intro k hk
              unfold one
              by_cases e : k = t
              · rw [if_pos e, e]; exact g1
              · rw [if_neg e]; exact (f1 309 k (Or.inr e)).trans ((k2 k).trans (hg0 k (by omega)))
            refine Eg.c1 rfl (by decide) (by decide) rfl (Nat.le_of_ble_eq_true rfl) (xrcv_of rfl hM.1 rfl) ((ms_day (g := one t z) hM (hv1.fr (fun i k h1 h2 h3 => f1 i k (by omega))) (by omega) (hw.n (by decide)) (hw.n (by decide)) hwt hgk).mono (by decide)) (fun r1 h1 hq => ?_)
            obtain ⟨rfl, I3, rfl, hv3, z1, z2, i3⟩ := hq
            refine e_aload rfl rfl ?_
            refine e_getR rfl hM.1 (show R 290 1 = some 291 from (hM.2 0 _ rfl).2) ?_
            refine e_ipush rfl ?_
            refine e_ialv (t := 7) (n := 14) rfl (show sh[291]? = some (20, 14) from (hM.2 0 _ rfl).1) rfl (by decide) (by decide) ((hv3 1 7 (by decide)).trans ((dayF_wn hw))) ?_
            refine Eg.ret rfl (by decide) rfl (Or.inl ⟨gg, ?_, I3, rfl, ?_, fun q => ?_, ?_, fun k hk => ?_, fun i q h1 h2 => ?_, fun q h1 h2 h3 => ?_⟩)
            · rw [dayF_7 (by omega)]
            · rw [nI_clamp (by omega)]; exact hv3
            · exact (i3 348 q (by omega)).trans ((f1 348 q (by omega)).trans (hP1 q))
            · exact (i3 290 71 (by omega)).trans ((f1 290 71 (by omega)).trans h711)
            · by_cases e : k < cn v 4
              · exact z1 k e
              · exact (z2 k (by omega)).trans ((f1 309 k (by omega)).trans ((k2 k).trans (hg0 k hk)))
            · exact (i3 i q (by omega)).trans ((f1 i q (by omega)).trans (k1 i q h1 h2))
            · exact (i3 290 q (by omega)).trans ((f1 290 q (by omega)).trans (k3 q h1 h2 h3))
          · refine e_aload rfl rfl ?_
            refine e_iload rfl rfl ?_
            refine e_aload rfl rfl ?_
            refine e_getR rfl hM.1 (show R 290 13 = some 303 from (hM.2 12 _ rfl).2) ?_
            refine e_iload rfl rfl ?_
            refine e_ialv (t := t) (n := 4) rfl (show sh[303]? = some (20, 4) from (hM.2 12 _ rfl).1) rfl (by omega) (by decide) (hv 13 t (by decide)) ?_
            refine e_iload rfl rfl ?_
            refine e_iadd rfl ?_
            refine Eg.p3 rfl (by decide) (by decide) rfl (Nat.le_of_ble_eq_true rfl) (xrcv_of rfl hM.1 rfl) ((ms_canGo hM hv hw (k := t) (by omega)).mono (by decide)) ?_
            refine e_ifne_b rfl (fun b60 => ?_) (fun b60 => ?_)
            · replace b60 := yn_n0.mp b60
              have gg : gSail v (nI t) z := by
                unfold gSail; rw [nI_clamp (by omega)]
                exact ⟨b5, b27, b40, Or.inr ⟨(way3 b17).resolve_left b44, b60⟩⟩
              refine e_aload rfl rfl ?_
              refine Eg.c1 rfl (by decide) (by decide) rfl (Nat.le_of_ble_eq_true rfl) (xrcv_of rfl hM.1 rfl) ((ms_keepsAct (P := P) (a := a) hM hv hP h71 ha).mono (by decide)) (fun r1 h1 hq => ?_)
              obtain ⟨rfl, I1, rfl, hv1, hP1, h711, k1, k2, k3⟩ := hq
              refine e_aload rfl rfl ?_
              refine e_getR rfl hM.1 (show R 290 19 = some 309 from (hM.2 18 _ rfl).2) ?_
              refine e_iload rfl rfl ?_
              refine e_iload rfl rfl ?_
              refine e_iasJ (t := t) (n := 4) rfl (show sh[309]? = some (20, 4) from (hM.2 18 _ rfl).1) rfl (by omega) (by decide) (fun J2 g2 f2 => ?_)
              refine e_aload rfl rfl ?_
              have hwt : ∀ k, k < cn v 4 → ∃ q, q < 2 ^ 31 ∧ v 14 k = nI q := by
                intro k hk
                obtain ⟨x0, y0, m, b, b1, b2, b3, b4, b5, b6, b7, b8, b9⟩ := hw.2.2.2.2 k hk
                exact ⟨y0, by omega, b3⟩
              have hgk : ∀ k, k < cn v 4 → J2 309 k = one t z k := by
                intro k hk
                unfold one
                by_cases e : k = t
                · rw [if_pos e, e]; exact g2
                · rw [if_neg e]; exact (f2 309 k (Or.inr e)).trans ((k2 k).trans (hg0 k (by omega)))
              refine Eg.c1 rfl (by decide) (by decide) rfl (Nat.le_of_ble_eq_true rfl) (xrcv_of rfl hM.1 rfl) ((ms_day (g := one t z) hM (hv1.fr (fun i k h1 h2 h3 => f2 i k (by omega))) (by omega) (hw.n (by decide)) (hw.n (by decide)) hwt hgk).mono (by decide)) (fun r1 h1 hq => ?_)
              obtain ⟨rfl, I3, rfl, hv3, z1, z2, i3⟩ := hq
              refine e_aload rfl rfl ?_
              refine e_getR rfl hM.1 (show R 290 1 = some 291 from (hM.2 0 _ rfl).2) ?_
              refine e_ipush rfl ?_
              refine e_ialv (t := 7) (n := 14) rfl (show sh[291]? = some (20, 14) from (hM.2 0 _ rfl).1) rfl (by decide) (by decide) ((hv3 1 7 (by decide)).trans ((dayF_wn hw))) ?_
              refine Eg.ret rfl (by decide) rfl (Or.inl ⟨gg, ?_, I3, rfl, ?_, fun q => ?_, ?_, fun k hk => ?_, fun i q h1 h2 => ?_, fun q h1 h2 h3 => ?_⟩)
              · rw [dayF_7 (by omega)]
              · rw [nI_clamp (by omega)]; exact hv3
              · exact (i3 348 q (by omega)).trans ((f2 348 q (by omega)).trans (hP1 q))
              · exact (i3 290 71 (by omega)).trans ((f2 290 71 (by omega)).trans h711)
              · by_cases e : k < cn v 4
                · exact z1 k e
                · exact (z2 k (by omega)).trans ((f2 309 k (by omega)).trans ((k2 k).trans (hg0 k hk)))
              · exact (i3 i q (by omega)).trans ((f2 i q (by omega)).trans (k1 i q h1 h2))
              · exact (i3 290 q (by omega)).trans ((f2 290 q (by omega)).trans (k3 q h1 h2 h3))
            · replace b60 := yn_0.mp b60
              refine e_ipush rfl ?_
              exact Eg.ret rfl (by decide) rfl (Or.inr ⟨fun q => by unfold gSail at q; rw [nI_clamp (by omega)] at q; exact q.2.2.2.elim b44 (fun q => b60 q.2), rfl, rfl⟩)
theorem fCost_nI {k : Nat} (hw : Wf v) (hk : k < cn v 4) (h : ¬ wlo v (v 13 k).toNatClampNeg (nI (cn v 7)) = -1) : ∃ q, q ≤ 2970 ∧ fCost v k = nI q := by
  have hb := hw.1.2
  obtain ⟨x0, y0, m, b, b1, b2, b3, b4, b5, b6, b7, b8, b9⟩ := hw.2.2.2.2 k hk
  rcases wlo_bd (v := v) (c := (v 13 k).toNatClampNeg) (n := cn v 2) (h := lv v (v 13 k).toNatClampNeg (nI (cn v 7))) with e | ⟨j, hj, e⟩
  · exact absurd e h
  · have hp : isP v j := Or.inl ⟨by omega, hj⟩
    obtain ⟨-, -, -, x, ex, h1, h2⟩ := hp.v hw
    have e2 : wlo v (v 13 k).toNatClampNeg (nI (cn v 7)) = nI j := e
    unfold fCost
    rw [e2, nI_clamp (by omega), ex, b5, b3, nI_sub b4, nI_times]
    refine ⟨_, ?_, rfl⟩
    have := Nat.mul_le_mul (show m - y0 ≤ 30 by omega) h2
    omega
theorem nI_m1' {q : Nat} (h : q < 2 ^ 31) : ¬ nI q = -1 := fun e => by
  have := congrArg Int32.toInt e
  rw [nI_toInt h, show (-1 : Int32).toInt = -1 by decide] at this
  omega
theorem ms_fillCost (hM : MW sh R) (hv : mV I v) (hw : Wf v) {k : Nat} (hk : k < cn v 4) : Ec X 6 255 [.ref 290, .int (nI k)] (sh, I, L, R) (fun r h' => r = some (.int (if v 18 k = -1 ∧ ¬ wlo v (v 13 k).toNatClampNeg (nI (cn v 7)) = -1 then fCost v k else -1)) ∧ h' = (sh, I, L, R)) := by
  have hb := hw.1.2
  obtain ⟨c, wa, tk, cl, ec, hc, -⟩ := hw.2.2.2.2 k hk
  refine Ec.of (Nat.le_of_ble_eq_true rfl) ?_
  refine e_aload rfl rfl ?_
  refine e_getR rfl hM.1 (hM.2 17 _ rfl).2 ?_
  refine e_iload rfl rfl ?_
  refine e_ialv (t := k) (n := 4) rfl (hM.2 17 _ rfl).1 rfl (by omega) (by decide) (hv 18 k (by decide)) ?_
  refine e_ipush rfl ?_
  refine e_cne_b rfl (fun b7 => ?_) (fun b7 => ?_)
  · refine e_ipush rfl ?_
    refine e_istore rfl ?_
    refine e_iload rfl rfl ?_
    refine e_ipush rfl ?_
    refine e_cne_f rfl rfl ?_
    refine e_ipush rfl ?_
    refine e_goto rfl ?_
    exact Eg.ret rfl (by decide) rfl ⟨congrArg (fun z => some (Value.int z)) (show ((-1) : Int32) = (if v 18 k = -1 ∧ ¬ wlo v (v 13 k).toNatClampNeg (nI (cn v 7)) = -1 then fCost v k else -1) from by rw [if_neg (fun q => b7 q.1)]), rfl⟩
  · refine e_aload rfl rfl ?_
    refine e_aload rfl rfl ?_
    refine e_getR rfl hM.1 (hM.2 12 _ rfl).2 ?_
    refine e_iload rfl rfl ?_
    refine e_ialv (t := k) (n := 4) rfl (hM.2 12 _ rfl).1 rfl (by omega) (by decide) ((hv 13 k (by decide)).trans ec) ?_
    refine e_aload rfl rfl ?_
    refine e_getR rfl hM.1 (hM.2 0 _ rfl).2 ?_
    refine e_ipush rfl ?_
    refine e_ialv (t := 7) (n := 14) rfl (hM.2 0 _ rfl).1 rfl (by decide) (by decide) (hv.n hw (j := 7) (by decide)) ?_
    refine Eg.p3 rfl (by decide) (by decide) rfl (Nat.le_of_ble_eq_true rfl) (xrcv_of rfl hM.1 rfl) ((ms_wellAt hM hv hw (c := c) (by omega)).mono (by decide)) ?_
    refine e_goto rfl ?_
    refine e_istore rfl ?_
    refine e_iload rfl rfl ?_
    refine e_ipush rfl ?_
    refine e_cne_b rfl (fun b34 => ?_) (fun b34 => ?_)
    · obtain e | ⟨b, hbb, eb⟩ := wlo_bd (v := v) (c := c) (n := cn v 2) (h := lv v c (nI (cn v 7)))
      · exact absurd e b34
      have eb : wlo v c (nI (cn v 7)) = nI b := eb
      rw [eb]
      refine e_aload rfl rfl ?_
      refine e_getR rfl hM.1 (hM.2 8 _ rfl).2 ?_
      refine e_iload rfl rfl ?_
      refine e_ialv (t := b) (n := 4) rfl (hM.2 8 _ rfl).1 rfl (by omega) (by decide) ((hv 9 b (by decide)).trans (if_pos (show b < 4 by omega) : pco v b = v 9 b).symm) ?_
      refine e_aload rfl rfl ?_
      refine e_getR rfl hM.1 (hM.2 14 _ rfl).2 ?_
      refine e_iload rfl rfl ?_
      refine e_ialv (t := k) (n := 4) rfl (hM.2 14 _ rfl).1 rfl (by omega) (by decide) (hv 15 k (by decide)) ?_
      refine e_aload rfl rfl ?_
      refine e_getR rfl hM.1 (hM.2 13 _ rfl).2 ?_
      refine e_iload rfl rfl ?_
      refine e_ialv (t := k) (n := 4) rfl (hM.2 13 _ rfl).1 rfl (by omega) (by decide) (hv 14 k (by decide)) ?_
      refine e_isub rfl ?_
      refine e_imul rfl ?_
      exact Eg.ret rfl (by decide) rfl ⟨congrArg (fun z => some (Value.int z)) (show ((pco v b) * ((v 15 k) - (v 14 k)) : Int32) = (if v 18 k = -1 ∧ ¬ wlo v (v 13 k).toNatClampNeg (nI (cn v 7)) = -1 then fCost v k else -1) from by rw [if_pos ⟨b7, by rw [ec, nI_clamp (by omega), eb]; exact nI_m1' (by omega)⟩]; unfold fCost; rw [ec, nI_clamp (by omega), eb, nI_clamp (by omega), Int32.mul_comm]), rfl⟩
    · refine e_ipush rfl ?_
      refine e_goto rfl ?_
      exact Eg.ret rfl (by decide) rfl ⟨congrArg (fun z => some (Value.int z)) (show ((-1) : Int32) = (if v 18 k = -1 ∧ ¬ wlo v (v 13 k).toNatClampNeg (nI (cn v 7)) = -1 then fCost v k else -1) from by rw [if_neg (fun q => q.2 (by rw [ec, nI_clamp (by omega)]; exact b34))]), rfl⟩
theorem ms_fills (hM : MW sh R) (hv : mV I v) {k : Nat} {x : Int32} (hk : k < 4) : Ec X 1 256 [.ref 290, .int (nI k), .int x] (sh, I, L, R) (fun r h' => r = none ∧ ∃ J : Nat → Nat → Int32, h' = (sh, J, L, R) ∧ mV J (filF v k x) ∧ ∀ i t, i ≠ 304 → i ≠ 307 → J i t = I i t) := by
  refine Ec.of (Nat.le_of_ble_eq_true rfl) ?_
  refine e_aload rfl rfl ?_
  refine e_getR rfl hM.1 (show R 290 17 = some 307 from (hM.2 16 _ rfl).2) ?_
  refine e_iload rfl rfl ?_
  refine e_dup2 rfl ?_
  refine e_ialv (t := k) (n := 4) rfl (show sh[307]? = some (20, 4) from (hM.2 16 _ rfl).1) rfl (by omega) (by decide) (hv 17 k (by decide)) ?_
  refine e_iload rfl rfl ?_
  refine e_iadd rfl ?_
  refine e_iasJ (t := k) (n := 4) rfl (show sh[307]? = some (20, 4) from (hM.2 16 _ rfl).1) rfl (by omega) (by decide) (fun J1 g1 f1 => ?_)
  refine e_aload rfl rfl ?_
  refine e_getR rfl hM.1 (show R 290 14 = some 304 from (hM.2 13 _ rfl).2) ?_
  refine e_iload rfl rfl ?_
  refine e_aload rfl rfl ?_
  refine e_getR rfl hM.1 (show R 290 15 = some 305 from (hM.2 14 _ rfl).2) ?_
  refine e_iload rfl rfl ?_
  refine e_ialv (t := k) (n := 4) rfl (show sh[305]? = some (20, 4) from (hM.2 14 _ rfl).1) rfl (by omega) (by decide) ((f1 305 k (Or.inl (by omega))).trans (hv 15 k (by decide))) ?_
  refine e_iasJ (t := k) (n := 4) rfl (show sh[304]? = some (20, 4) from (hM.2 13 _ rfl).1) rfl (by omega) (by decide) (fun J2 g2 f2 => ?_)
  have m1 := (hv.up (f := 17) (by decide) g1 f1).up (f := 14) (by decide) g2 f2
  refine Eg.ret rfl (by decide) rfl ⟨rfl, J2, rfl, ?_, fun i t h1 h2 => (f2 i t (by omega)).trans (f1 i t (by omega))⟩
  unfold filF; rw [xu_comm (Or.inl (by decide))]; exact m1
theorem md_fill {P : Nat → Int32} {a : Nat} (hq : MRq sh I R v P a) {x : Int32} : Ec X 7 257 [.ref 290, .int x] (sh, I, L, R) (fun r h' => (gFill v x ∧ r = some (.int (fCost v x.toNatClampNeg)) ∧ MACT sh I L R (filF v x.toNatClampNeg (fCost v x.toNatClampNeg)) (remP v P a) (remB a + 1) h') ∨ (¬ gFill v x ∧ r = some (.int (-1)) ∧ h' = (sh, I, L, R))) := by
  obtain ⟨hM, hv, hw, hP, h71, ha, hg0⟩ := hq
  have hb := hw.1.2
  refine Ec.of (Nat.le_of_ble_eq_true rfl) ?_
  refine e_aload rfl rfl ?_
  refine e_iload rfl rfl ?_
  refine Eg.p2 rfl (by decide) (by decide) rfl (Nat.le_of_ble_eq_true rfl) (xrcv_of rfl hM.1 rfl) ((ms_isShip hM hv hw).mono (by decide)) ?_
  refine e_ifeq_b rfl (fun b5 => ?_) (fun b5 => ?_)
  · replace b5 := yn_0.mp b5
    refine e_ipush rfl ?_
    refine e_istore rfl ?_
    refine e_iload rfl rfl ?_
    refine e_ipush rfl ?_
    refine e_cne_f rfl rfl ?_
    refine e_ipush rfl ?_
    exact Eg.ret rfl (by decide) rfl (Or.inr ⟨fun q => b5 q.1, rfl, rfl⟩)
  · replace b5 := yn_n0.mp b5
    obtain ⟨t, ht, et⟩ := nI_get b5 (by omega)
    subst et
    refine e_aload rfl rfl ?_
    refine e_iload rfl rfl ?_
    refine Eg.p2 rfl (by decide) (by decide) rfl (Nat.le_of_ble_eq_true rfl) (xrcv_of rfl hM.1 rfl) ((ms_fillCost hM hv hw (k := t) ht).mono (by decide)) ?_
    refine e_goto rfl ?_
    refine e_istore rfl ?_
    refine e_iload rfl rfl ?_
    refine e_ipush rfl ?_
    refine e_cne_b rfl (fun b20 => ?_) (fun b20 => ?_)
    · by_cases gg : v 18 t = -1 ∧ ¬ wlo v (v 13 t).toNatClampNeg (nI (cn v 7)) = -1
      rotate_left
      · rw [if_neg gg] at b20; exact absurd rfl b20
      rw [if_pos gg]
      have gF : gFill v (nI t) := by unfold gFill; rw [nI_clamp (by omega)]; exact ⟨b5, gg.1, gg.2⟩
      refine e_aload rfl rfl ?_
      refine Eg.c1 rfl (by decide) (by decide) rfl (Nat.le_of_ble_eq_true rfl) (xrcv_of rfl hM.1 rfl) ((ms_keepsAct (P := P) (a := a) hM hv hP h71 ha).mono (by decide)) (fun r1 h1 hq => ?_)
      obtain ⟨rfl, I1, rfl, hv1, hP1, h711, k1, k2, k3⟩ := hq
      refine e_aload rfl rfl ?_
      refine e_iload rfl rfl ?_
      refine e_iload rfl rfl ?_
      refine Eg.c3 rfl (by decide) (by decide) rfl (Nat.le_of_ble_eq_true rfl) (xrcv_of rfl hM.1 rfl) ((ms_fills hM hv1 (k := t) (x := fCost v t) (by omega)).mono (by decide)) (fun r1 h1 hq => ?_)
      obtain ⟨rfl, I2, rfl, hv2, i2⟩ := hq
      refine e_iload rfl rfl ?_
      refine Eg.ret rfl (by decide) rfl (Or.inl ⟨gF, by rw [nI_clamp (by omega)], I2, rfl, by rw [nI_clamp (by omega)]; exact hv2, fun q => (i2 348 q (by decide) (by decide)).trans (hP1 q), (i2 290 71 (by decide) (by decide)).trans h711, fun k hk => (i2 309 k (by decide) (by decide)).trans ((k2 k).trans (hg0 k hk)), fun i q h1 h2 => (i2 i q (by omega) (by omega)).trans (k1 i q h1 h2), fun q h1 h2 h3 => (i2 290 q (by decide) (by decide)).trans (k3 q h1 h2 h3)⟩)
    · have gF : ¬ gFill v (nI t) := by
        intro q
        unfold gFill at q; rw [nI_clamp (by omega)] at q
        rw [if_pos ⟨q.2.1, q.2.2⟩] at b20
        obtain ⟨n, hn, en⟩ := fCost_nI hw ht q.2.2
        rw [en] at b20
        exact nI_m1' (by omega) b20
      refine e_ipush rfl ?_
      exact Eg.ret rfl (by decide) rfl (Or.inr ⟨gF, rfl, rfl⟩)
theorem md_fence {P : Nat → Int32} {a : Nat} (hq : MRq sh I R v P a) {x z : Int32} (hz : z = 0 ∨ z = 1) : Ec X 4 258 [.ref 290, .int x, .int z] (sh, I, L, R) (fun r h' => (gFence v x z ∧ r = some (.int 1) ∧ MACT sh I L R (fenF v x.toNatClampNeg) (remP v P a) (remB a + 1) h') ∨ (¬ gFence v x z ∧ r = some (.int 0) ∧ h' = (sh, I, L, R))) := by
  obtain ⟨hM, hv, hw, hP, h71, ha, hg0⟩ := hq
  have hb := hw.1.2
  refine Ec.of (Nat.le_of_ble_eq_true rfl) ?_
  refine e_aload rfl rfl ?_
  refine e_iload rfl rfl ?_
  refine Eg.p2 rfl (by decide) (by decide) rfl (Nat.le_of_ble_eq_true rfl) (xrcv_of rfl hM.1 rfl) ((ms_isCell hM hv hw).mono (by decide)) ?_
  refine e_ifeq_b rfl (fun b5 => ?_) (fun b5 => ?_)
  · replace b5 := yn_0.mp b5
    refine e_ipush rfl ?_
    exact Eg.ret rfl (by decide) rfl (Or.inr ⟨fun q => b5 q.1, rfl, rfl⟩)
  · replace b5 := yn_n0.mp b5
    obtain ⟨t, ht, et⟩ := nI_get b5 (by omega)
    subst et
    refine e_aload rfl rfl ?_
    refine e_iload rfl rfl ?_
    refine e_ipush rfl ?_
    refine Eg.p3 rfl (by decide) (by decide) rfl (Nat.le_of_ble_eq_true rfl) (xrcv_of rfl hM.1 rfl) ((ms_isFenced hM hv hw (c := t) (M := 0) (by omega) (by decide)).mono (by decide)) ?_
    rw [Nat.or_zero]
    refine e_iload rfl rfl ?_
    refine e_cne_b rfl (fun b15 => ?_) (fun b15 => ?_)
    · refine e_aload rfl rfl ?_
      refine Eg.c1 rfl (by decide) (by decide) rfl (Nat.le_of_ble_eq_true rfl) (xrcv_of rfl hM.1 rfl) ((ms_keepsAct (P := P) (a := a) hM hv hP h71 ha).mono (by decide)) (fun r1 h1 hq => ?_)
      obtain ⟨rfl, I1, rfl, hv1, hP1, h711, k1, k2, k3⟩ := hq
      refine e_aload rfl rfl ?_
      refine e_getR rfl hM.1 (show R 290 1 = some 291 from (hM.2 0 _ rfl).2) ?_
      refine e_ipush rfl ?_
      refine e_dup2 rfl ?_
      refine e_ialv (t := 8) (n := 14) rfl (show sh[291]? = some (20, 14) from (hM.2 0 _ rfl).1) rfl (by decide) (by decide) ((hv1 1 8 (by decide)).trans (hw.n (by decide))) ?_
      refine e_ipush rfl ?_
      refine e_iload rfl rfl ?_
      refine e_ishl rfl ?_
      rw [show 1 <<< ((nI t) &&& 31) = nI (1 <<< t) from (show nI 1 <<< (nI t &&& 31) = _ from nI_shl (by omega))]
      refine e_ixor rfl ?_
      rw [show (nI (cn v 8)) ^^^ (nI (1 <<< t)) = nI (cn v 8 ^^^ 1 <<< t) from nI_xor _ _]
      refine e_iasJ (t := 8) (n := 14) rfl (show sh[291]? = some (20, 14) from (hM.2 0 _ rfl).1) rfl (by decide) (by decide) (fun J1 g1 f1 => ?_)
      refine e_ipush rfl ?_
      refine Eg.ret rfl (by decide) rfl (Or.inl ⟨?_, rfl, J1, rfl, by rw [nI_clamp (by omega)]; exact hv1.up (f := 1) (by decide) g1 f1, fun q => (f1 348 q (by omega)).trans (hP1 q), (f1 290 71 (by omega)).trans h711, fun k hk => (f1 309 k (by omega)).trans ((k2 k).trans (hg0 k hk)), fun i q h1 h2 => (f1 i q (by omega)).trans (k1 i q h1 h2), fun q h1 h2 h3 => (f1 290 q (by omega)).trans (k3 q h1 h2 h3)⟩)
      unfold gFence; rw [nI_clamp (by omega)]
      refine ⟨b5, fun q => b15 ?_⟩
      rcases hz with h | h
      · rw [h]; exact yn_f (fun q1 => q.mp q1 h)
      · rw [h]; exact yn_t (q.mpr (by rw [h]; decide))
    · refine e_ipush rfl ?_
      exact Eg.ret rfl (by decide) rfl (Or.inr ⟨fun q => by unfold gFence at q; rw [nI_clamp (by omega)] at q; exact q.2 ⟨fun q1 => by rw [← b15, yn_t q1]; decide, fun q1 => yn_1.mp (b15.trans (hz.resolve_left q1))⟩, rfl, rfl⟩)
theorem ms_dropsOver (hM : MW sh R) (hv : mV I v) (hw : Wf v) : Ec X 1 260 [.ref 290] (sh, I, L, R) (fun r h' => r = none ∧ ∃ J : Nat → Nat → Int32, h' = (sh, J, L, R) ∧ mV J (drpV v) ∧ ∀ i x, i < 291 ∨ 313 < i ∨ i = 309 → J i x = I i x) := by
  have hb := hw.1.2
  refine Ec.of (Nat.le_of_ble_eq_true rfl) ?_
  refine e_ipush rfl ?_
  refine e_istore rfl ?_
  refine e_ipush rfl ?_
  refine e_istore rfl ?_
  refine Eg.pk [0, 1, 2] [2, 1, 0] rfl (by decide) ?_
  refine up_ind (p := fun j => ∀ J : Nat → Nat → Int32, mV J (drpW v j) → (∀ i x, i < 291 ∨ 313 < i ∨ i = 309 → J i x = I i x) → Eg X xTc 0 260 4 [(0, .ref 290), (1, .int (nI (dgn v j))), (2, .int (nI j))] [] (sh, J, L, R) (fun r h' => r = none ∧ ∃ J : Nat → Nat → Int32, h' = (sh, J, L, R) ∧ mV J (drpV v) ∧ ∀ i x, i < 291 ∨ 313 < i ∨ i = 309 → J i x = I i x)) (n := cn v 9) (j := 0) (fun j hj ih => ?_) ?_ (Nat.zero_le _) I hv (fun i x hi => rfl)
  · intro J a1 a2
    have hdj := dgn_le (v := v) (n := j)
    have j9 : J 291 9 = nI (cn v 9) := (a1 1 9 (by decide)).trans ((drpW_o (by omega)).trans (hw.n (by decide)))
    have j7 : J 291 7 = v 1 7 := (a1 1 7 (by decide)).trans (drpW_o (by omega))
    have je : ∀ f, 20 ≤ f → f ≤ 23 → J (290 + f) j = v f j := fun f h1 h2 => (a1 f j (by omega)).trans (drpW_o (by omega))
    refine e_iload rfl rfl ?_
    refine e_aload rfl rfl ?_
    refine e_getR rfl hM.1 (show R 290 1 = some 291 from (hM.2 0 _ rfl).2) ?_
    refine e_ipush rfl ?_
    refine e_ialv (t := 9) (n := 14) rfl (show sh[291]? = some (20, 14) from (hM.2 0 _ rfl).1) rfl (by decide) (by decide) j9 ?_
    refine e_cge_f rfl (nI_ge hj (by omega)) ?_
    refine e_aload rfl rfl ?_
    refine e_getR rfl hM.1 (show R 290 23 = some 313 from (hM.2 22 _ rfl).2) ?_
    refine e_iload rfl rfl ?_
    refine e_ialv (t := j) (n := 8) rfl (show sh[313]? = some (20, 8) from (hM.2 22 _ rfl).1) rfl (by omega) (by decide) (je 23 (by decide) (by decide)) ?_
    refine e_aload rfl rfl ?_
    refine e_getR rfl hM.1 (show R 290 1 = some 291 from (hM.2 0 _ rfl).2) ?_
    refine e_ipush rfl ?_
    refine e_ialv (t := 7) (n := 14) rfl (show sh[291]? = some (20, 14) from (hM.2 0 _ rfl).1) rfl (by decide) (by decide) j7 ?_
    refine e_clt_b rfl (fun b28 => ?_) (fun b28 => ?_)
    · refine e_iinc rfl rfl ?_
      refine e_goto rfl ?_
      refine Eg.pk [0, 1, 2] [2, 0, 1] rfl (by decide) ?_
      have hl : ¬ v 1 7 ≤ v 23 j := Int32.not_le.mpr b28
      rw [nI_1, ← dgn_f hl]
      exact ih J (by rw [drpW_f hl]; exact a1) a2
    · refine e_aload rfl rfl ?_
      refine e_getR rfl hM.1 (show R 290 20 = some 310 from (hM.2 19 _ rfl).2) ?_
      refine e_iload rfl rfl ?_
      refine e_aload rfl rfl ?_
      refine e_getR rfl hM.1 (show R 290 20 = some 310 from (hM.2 19 _ rfl).2) ?_
      refine e_iload rfl rfl ?_
      refine e_ialv (t := j) (n := 8) rfl (show sh[310]? = some (20, 8) from (hM.2 19 _ rfl).1) rfl (by omega) (by decide) (je 20 (by decide) (by decide)) ?_
      refine e_iasJ (t := (dgn v j)) (n := 8) rfl (show sh[310]? = some (20, 8) from (hM.2 19 _ rfl).1) rfl (by omega) (by decide) (fun J1 g1 f1 => ?_)
      refine e_aload rfl rfl ?_
      refine e_getR rfl hM.1 (show R 290 21 = some 311 from (hM.2 20 _ rfl).2) ?_
      refine e_iload rfl rfl ?_
      refine e_aload rfl rfl ?_
      refine e_getR rfl hM.1 (show R 290 21 = some 311 from (hM.2 20 _ rfl).2) ?_
      refine e_iload rfl rfl ?_
      refine e_ialv (t := j) (n := 8) rfl (show sh[311]? = some (20, 8) from (hM.2 20 _ rfl).1) rfl (by omega) (by decide) ((f1 311 j (Or.inl (by omega))).trans (je 21 (by decide) (by decide))) ?_
      refine e_iasJ (t := (dgn v j)) (n := 8) rfl (show sh[311]? = some (20, 8) from (hM.2 20 _ rfl).1) rfl (by omega) (by decide) (fun J2 g2 f2 => ?_)
      refine e_aload rfl rfl ?_
      refine e_getR rfl hM.1 (show R 290 22 = some 312 from (hM.2 21 _ rfl).2) ?_
      refine e_iload rfl rfl ?_
      refine e_aload rfl rfl ?_
      refine e_getR rfl hM.1 (show R 290 22 = some 312 from (hM.2 21 _ rfl).2) ?_
      refine e_iload rfl rfl ?_
      refine e_ialv (t := j) (n := 8) rfl (show sh[312]? = some (20, 8) from (hM.2 21 _ rfl).1) rfl (by omega) (by decide) ((f2 312 j (Or.inl (by omega))).trans ((f1 312 j (Or.inl (by omega))).trans (je 22 (by decide) (by decide)))) ?_
      refine e_iasJ (t := (dgn v j)) (n := 8) rfl (show sh[312]? = some (20, 8) from (hM.2 21 _ rfl).1) rfl (by omega) (by decide) (fun J3 g3 f3 => ?_)
      refine e_aload rfl rfl ?_
      refine e_getR rfl hM.1 (show R 290 23 = some 313 from (hM.2 22 _ rfl).2) ?_
      refine e_iload rfl rfl ?_
      refine e_aload rfl rfl ?_
      refine e_getR rfl hM.1 (show R 290 23 = some 313 from (hM.2 22 _ rfl).2) ?_
      refine e_iload rfl rfl ?_
      refine e_ialv (t := j) (n := 8) rfl (show sh[313]? = some (20, 8) from (hM.2 22 _ rfl).1) rfl (by omega) (by decide) ((f3 313 j (Or.inl (by omega))).trans ((f2 313 j (Or.inl (by omega))).trans ((f1 313 j (Or.inl (by omega))).trans (je 23 (by decide) (by decide))))) ?_
      refine e_iasJ (t := (dgn v j)) (n := 8) rfl (show sh[313]? = some (20, 8) from (hM.2 22 _ rfl).1) rfl (by omega) (by decide) (fun J4 g4 f4 => ?_)
      refine e_iinc rfl rfl ?_
      refine e_iinc rfl rfl ?_
      refine e_goto rfl ?_
      refine Eg.pk [0, 1, 2] [2, 1, 0] rfl (by decide) ?_
      have hl : v 1 7 ≤ v 23 j := Int32.not_lt.mp b28
      rw [nI_1, nI_1, ← dgn_t hl]
      have m1 := (((a1.up (f := 20) (by decide) g1 f1).up (f := 21) (by decide) g2 f2).up (f := 22) (by decide) g3 f3).up (f := 23) (by decide) g4 f4
      exact ih J4 (by rw [drpW_t hl]; exact m1) (fun i x hi => (f4 i x (by omega)).trans ((f3 i x (by omega)).trans ((f2 i x (by omega)).trans ((f1 i x (by omega)).trans (a2 i x hi)))))
  · intro J a1 a2
    have j9 : J 291 9 = nI (cn v 9) := (a1 1 9 (by decide)).trans ((drpW_o (by omega)).trans (hw.n (by decide)))
    refine e_iload rfl rfl ?_
    refine e_aload rfl rfl ?_
    refine e_getR rfl hM.1 (show R 290 1 = some 291 from (hM.2 0 _ rfl).2) ?_
    refine e_ipush rfl ?_
    refine e_ialv (t := 9) (n := 14) rfl (show sh[291]? = some (20, 14) from (hM.2 0 _ rfl).1) rfl (by decide) (by decide) j9 ?_
    refine e_cge_t rfl (Int32.le_refl _) ?_
    refine e_aload rfl rfl ?_
    refine e_getR rfl hM.1 (show R 290 1 = some 291 from (hM.2 0 _ rfl).2) ?_
    refine e_ipush rfl ?_
    refine e_iload rfl rfl ?_
    refine e_iasJ (t := 9) (n := 14) rfl (show sh[291]? = some (20, 14) from (hM.2 0 _ rfl).1) rfl (by decide) (by decide) (fun J1 g1 f1 => ?_)
    exact Eg.ret rfl (by decide) rfl ⟨rfl, J1, rfl, a1.up (f := 1) (by decide) g1 f1, fun i x hi => (f1 i x (by omega)).trans (a2 i x hi)⟩
theorem md_dig63 (hM : MW sh R) (hw : Wf v) {P : Nat → Int32} {a t : Nat} {b d : Int32} {J : Nat → Nat → Int32} (hg : gDig v (nI t) b d) (ht : t < cn v 0) (hv : mV J (digB v)) (hP1 : ∀ x, J 348 x = remP v P a x) (h71 : J 290 71 = nI (remB a + 1)) (h309 : ∀ k, k < 4 → J 309 k = 0) (k1 : ∀ i x, i < 290 ∨ 321 < i → i ≠ 348 → J i x = I i x) (k3 : ∀ x, x ≠ 71 → x ≠ 72 → x ≠ 73 → J 290 x = I 290 x) : Eg X xTc 4 261 63 [(0, .ref 290), (1, .int (nI t)), (2, .int b), (3, .int d)] [] (sh, J, L, R) (fun r h' => (gDig v (nI t) b d ∧ r = some (.int (lv (digF v (nI t) b d) (nI t).toNatClampNeg (nI (cn v 7)))) ∧ MACT sh I L R (digF v (nI t) b d) (remP v P a) (remB a + 1) h') ∨ (¬ gDig v (nI t) b d ∧ r = some (.int (-1)) ∧ h' = (sh, I, L, R))) := by
  have hb := hw.1.2
  obtain ⟨hB1, hB2, hB3, hB4, hB5⟩ := digB_s hw hg.2.2.2
  have u9 : J 291 9 = nI (cn (digB v) 9) := (hv 1 9 (by decide)).trans (by
    unfold digB
    by_cases h : cn v 9 = 8
    · rw [if_pos h, drpV_9 (by omega)]; exact xu_at
    · rw [if_neg h]; exact hw.n (by decide))
  have u7 : J 291 7 = v 1 7 := (hv 1 7 (by decide)).trans hB2
  have e7 : v 1 7 = nI (cn v 7) := hw.n (by decide)
  refine e_aload rfl rfl ?_
  refine e_getR rfl hM.1 (show R 290 1 = some 291 from (hM.2 0 _ rfl).2) ?_
  refine e_ipush rfl ?_
  refine e_ialv (t := 9) (n := 14) rfl (show sh[291]? = some (20, 14) from (hM.2 0 _ rfl).1) rfl (by decide) (by decide) u9 ?_
  refine e_istore rfl ?_
  refine e_aload rfl rfl ?_
  refine e_getR rfl hM.1 (show R 290 20 = some 310 from (hM.2 19 _ rfl).2) ?_
  refine e_iload rfl rfl ?_
  refine e_iload rfl rfl ?_
  refine e_iasJ (t := (cn (digB v) 9)) (n := 8) rfl (show sh[310]? = some (20, 8) from (hM.2 19 _ rfl).1) rfl (by omega) (by decide) (fun J1 g1 f1 => ?_)
  refine e_aload rfl rfl ?_
  refine e_getR rfl hM.1 (show R 290 21 = some 311 from (hM.2 20 _ rfl).2) ?_
  refine e_iload rfl rfl ?_
  refine e_iload rfl rfl ?_
  refine e_iasJ (t := (cn (digB v) 9)) (n := 8) rfl (show sh[311]? = some (20, 8) from (hM.2 20 _ rfl).1) rfl (by omega) (by decide) (fun J2 g2 f2 => ?_)
  refine e_aload rfl rfl ?_
  refine e_getR rfl hM.1 (show R 290 22 = some 312 from (hM.2 21 _ rfl).2) ?_
  refine e_iload rfl rfl ?_
  refine e_aload rfl rfl ?_
  refine e_getR rfl hM.1 (show R 290 1 = some 291 from (hM.2 0 _ rfl).2) ?_
  refine e_ipush rfl ?_
  refine e_ialv (t := 7) (n := 14) rfl (show sh[291]? = some (20, 14) from (hM.2 0 _ rfl).1) rfl (by decide) (by decide) ((f2 291 7 (Or.inl (by omega))).trans ((f1 291 7 (Or.inl (by omega))).trans u7)) ?_
  refine e_iasJ (t := (cn (digB v) 9)) (n := 8) rfl (show sh[312]? = some (20, 8) from (hM.2 21 _ rfl).1) rfl (by omega) (by decide) (fun J3 g3 f3 => ?_)
  refine e_aload rfl rfl ?_
  refine e_getR rfl hM.1 (show R 290 23 = some 313 from (hM.2 22 _ rfl).2) ?_
  refine e_iload rfl rfl ?_
  refine e_aload rfl rfl ?_
  refine e_getR rfl hM.1 (show R 290 1 = some 291 from (hM.2 0 _ rfl).2) ?_
  refine e_ipush rfl ?_
  refine e_ialv (t := 7) (n := 14) rfl (show sh[291]? = some (20, 14) from (hM.2 0 _ rfl).1) rfl (by decide) (by decide) ((f3 291 7 (Or.inl (by omega))).trans ((f2 291 7 (Or.inl (by omega))).trans ((f1 291 7 (Or.inl (by omega))).trans u7))) ?_
  refine e_iload rfl rfl ?_
  refine e_iadd rfl ?_
  refine e_ipush rfl ?_
  refine e_isub rfl ?_
  refine e_iasJ (t := (cn (digB v) 9)) (n := 8) rfl (show sh[313]? = some (20, 8) from (hM.2 22 _ rfl).1) rfl (by omega) (by decide) (fun J4 g4 f4 => ?_)
  refine e_aload rfl rfl ?_
  refine e_getR rfl hM.1 (show R 290 1 = some 291 from (hM.2 0 _ rfl).2) ?_
  refine e_ipush rfl ?_
  refine e_dup2 rfl ?_
  refine e_ialv (t := 9) (n := 14) rfl (show sh[291]? = some (20, 14) from (hM.2 0 _ rfl).1) rfl (by decide) (by decide) ((f4 291 9 (Or.inl (by omega))).trans ((f3 291 9 (Or.inl (by omega))).trans ((f2 291 9 (Or.inl (by omega))).trans ((f1 291 9 (Or.inl (by omega))).trans u9)))) ?_
  refine e_ipush rfl ?_
  refine e_iadd rfl ?_
  rw [show (nI (cn (digB v) 9)) + 1 = nI (cn (digB v) 9 + 1) from nI_1 _]
  refine e_iasJ (t := 9) (n := 14) rfl (show sh[291]? = some (20, 14) from (hM.2 0 _ rfl).1) rfl (by decide) (by decide) (fun J5 g5 f5 => ?_)
  have hvN : mV J5 (digF v (nI t) b d) := by
    have m1 := ((((hv.up (f := 20) (by decide) g1 f1).up (f := 21) (by decide) g2 f2).up (f := 22) (by decide) g3 f3).up (f := 23) (by decide) g4 f4).up (f := 1) (by decide) g5 f5
    show mV J5 (xu (xu4 (digB v) (cn (digB v) 9) (nI t) b ((digB v) 1 7) ((digB v) 1 7 + d - 1)) 1 9 (nI (cn (digB v) 9 + 1)))
    rw [hB2]; exact m1
  refine e_aload rfl rfl ?_
  refine e_iload rfl rfl ?_
  refine e_aload rfl rfl ?_
  refine e_getR rfl hM.1 (show R 290 1 = some 291 from (hM.2 0 _ rfl).2) ?_
  refine e_ipush rfl ?_
  refine e_ialv (t := 7) (n := 14) rfl (show sh[291]? = some (20, 14) from (hM.2 0 _ rfl).1) rfl (by decide) (by decide) ((f5 291 7 (Or.inr (by decide))).trans ((f4 291 7 (Or.inl (by omega))).trans ((f3 291 7 (Or.inl (by omega))).trans ((f2 291 7 (Or.inl (by omega))).trans ((f1 291 7 (Or.inl (by omega))).trans u7))))) ?_
  refine Eg.p3 rfl (by decide) (by decide) rfl (Nat.le_of_ble_eq_true rfl) (xrcv_of rfl hM.1 rfl) ((ms_heightNow hM hvN (digF_wf (c := nI t) (b := b) (d := d) hw hg.2.2.2) (c := t) (by omega)).mono (by decide)) ?_
  refine Eg.ret rfl (by decide) rfl (Or.inl ⟨hg, by rw [nI_clamp (by omega), e7], J5, rfl, hvN, fun q => ((f5 348 q (by omega)).trans ((f4 348 q (by omega)).trans ((f3 348 q (by omega)).trans ((f2 348 q (by omega)).trans ((f1 348 q (by omega)).trans (hP1 q)))))), ((f5 290 71 (by omega)).trans ((f4 290 71 (by omega)).trans ((f3 290 71 (by omega)).trans ((f2 290 71 (by omega)).trans ((f1 290 71 (by omega)).trans h71))))), fun k hk => ((f5 309 k (by omega)).trans ((f4 309 k (by omega)).trans ((f3 309 k (by omega)).trans ((f2 309 k (by omega)).trans ((f1 309 k (by omega)).trans (h309 k hk)))))), fun i q h1 h2 => ((f5 i q (by omega)).trans ((f4 i q (by omega)).trans ((f3 i q (by omega)).trans ((f2 i q (by omega)).trans ((f1 i q (by omega)).trans (k1 i q h1 h2)))))), fun q h1 h2 h3 => ((f5 290 q (by omega)).trans ((f4 290 q (by omega)).trans ((f3 290 q (by omega)).trans ((f2 290 q (by omega)).trans ((f1 290 q (by omega)).trans (k3 q h1 h2 h3))))))⟩)
theorem md_dig {P : Nat → Int32} {a : Nat} (hq : MRq sh I R v P a) {x b d : Int32} : Ec X 5 261 [.ref 290, .int x, .int b, .int d] (sh, I, L, R) (fun r h' => (gDig v x b d ∧ r = some (.int (lv (digF v x b d) x.toNatClampNeg (nI (cn v 7)))) ∧ MACT sh I L R (digF v x b d) (remP v P a) (remB a + 1) h') ∨ (¬ gDig v x b d ∧ r = some (.int (-1)) ∧ h' = (sh, I, L, R))) := by
  obtain ⟨hM, hv, hw, hP, h71, ha, hg0⟩ := hq
  have hb := hw.1.2
  have hdl := dgn_le (v := v) (n := cn v 9)
  refine Ec.of (Nat.le_of_ble_eq_true rfl) ?_
  refine e_aload rfl rfl ?_
  refine e_iload rfl rfl ?_
  refine Eg.p2 rfl (by decide) (by decide) rfl (Nat.le_of_ble_eq_true rfl) (xrcv_of rfl hM.1 rfl) ((ms_isCell hM hv hw).mono (by decide)) ?_
  refine e_ifeq_b rfl (fun b5 => ?_) (fun b5 => ?_)
  · replace b5 := yn_0.mp b5
    refine e_ipush rfl ?_
    exact Eg.ret rfl (by decide) rfl (Or.inr ⟨fun q => b5 q.1, rfl, rfl⟩)
  · replace b5 := yn_n0.mp b5
    refine e_iload rfl rfl ?_
    refine e_i2l rfl ?_
    refine e_lpush rfl ?_
    refine e_lpush rfl ?_
    refine Eg.p3 rfl (by decide) (by decide) rfl (Nat.le_of_ble_eq_true rfl) (xrcv_ofs (Or.inl rfl)) ((ms_inv (x := b) (y := 1) (z := 20) rfl (by decide) (by decide)).mono (by decide)) ?_
    refine e_ifeq_b rfl (fun b17 => ?_) (fun b17 => ?_)
    · replace b17 := yn_0.mp b17
      refine e_ipush rfl ?_
      exact Eg.ret rfl (by decide) rfl (Or.inr ⟨fun q => b17 q.2.1, rfl, rfl⟩)
    · replace b17 := yn_n0.mp b17
      refine e_iload rfl rfl ?_
      refine e_i2l rfl ?_
      refine e_lpush rfl ?_
      refine e_lpush rfl ?_
      refine Eg.p3 rfl (by decide) (by decide) rfl (Nat.le_of_ble_eq_true rfl) (xrcv_ofs (Or.inl rfl)) ((ms_inv (x := d) (y := 1) (z := 30) rfl (by decide) (by decide)).mono (by decide)) ?_
      refine e_ifeq_b rfl (fun b29 => ?_) (fun b29 => ?_)
      · replace b29 := yn_0.mp b29
        refine e_ipush rfl ?_
        exact Eg.ret rfl (by decide) rfl (Or.inr ⟨fun q => b29 q.2.2.1, rfl, rfl⟩)
      · replace b29 := yn_n0.mp b29
        refine e_aload rfl rfl ?_
        refine Eg.p1 rfl (by decide) (by decide) rfl (Nat.le_of_ble_eq_true rfl) (xrcv_of rfl hM.1 rfl) ((ms_lasting hM hv hw).mono (by decide)) ?_
        refine e_ipush rfl ?_
        refine e_cne_b rfl (fun b38 => ?_) (fun b38 => ?_)
        · have b38 : dgn v (cn v 9) < 8 := by
            have : ¬ dgn v (cn v 9) = 8 := fun q => b38 (by rw [q]; rfl)
            omega
          obtain ⟨t, ht, et⟩ := nI_get b5 (by omega)
          subst et
          have gg : gDig v (nI t) b d := ⟨b5, b17, b29, b38⟩
          refine e_aload rfl rfl ?_
          refine Eg.c1 rfl (by decide) (by decide) rfl (Nat.le_of_ble_eq_true rfl) (xrcv_of rfl hM.1 rfl) ((ms_keepsAct (P := P) (a := a) hM hv hP h71 ha).mono (by decide)) (fun r1 h1 hq => ?_)
          obtain ⟨rfl, I1, rfl, hv1, hP1, h711, k1, k2, k3⟩ := hq
          refine e_aload rfl rfl ?_
          refine e_getR rfl hM.1 (show R 290 1 = some 291 from (hM.2 0 _ rfl).2) ?_
          refine e_ipush rfl ?_
          refine e_ialv (t := 9) (n := 14) rfl (show sh[291]? = some (20, 14) from (hM.2 0 _ rfl).1) rfl (by decide) (by decide) ((hv1 1 9 (by decide)).trans (hw.n (by decide))) ?_
          refine e_ipush rfl ?_
          refine e_cne_b rfl (fun b56 => ?_) (fun b56 => ?_)
          · have b56 : ¬ cn v 9 = 8 := fun q => b56 (by rw [q]; rfl)
            refine Eg.pk [0, 1, 2, 3] [0, 1, 2, 3] rfl (by decide) ?_
            exact md_dig63 (I := I) hM hw gg ht (by unfold digB; rw [if_neg b56]; exact hv1) hP1 h711 (fun k hk => (k2 k).trans (hg0 k hk)) k1 k3
          · have b56 : cn v 9 = 8 := (nI_eq (b := 8) (by omega) (by decide)).mp b56
            refine e_aload rfl rfl ?_
            refine Eg.c1 rfl (by decide) (by decide) rfl (Nat.le_of_ble_eq_true rfl) (xrcv_of rfl hM.1 rfl) ((ms_dropsOver hM hv1 hw).mono (by decide)) (fun r1 h1 hq => ?_)
            obtain ⟨rfl, I2, rfl, hv2, i2⟩ := hq
            refine Eg.pk [0, 1, 2, 3] [0, 1, 2, 3] rfl (by decide) ?_
            exact md_dig63 (I := I) hM hw gg ht (by unfold digB; rw [if_pos b56]; exact hv2) (fun q => (i2 348 q (by omega)).trans (hP1 q)) ((i2 290 71 (by omega)).trans h711) (fun k hk => (i2 309 k (by omega)).trans ((k2 k).trans (hg0 k hk))) (fun i q h1 h2 => (i2 i q (by omega)).trans (k1 i q h1 h2)) (fun q h1 h2 h3 => (i2 290 q (by omega)).trans (k3 q h1 h2 h3))
        · have b38 : dgn v (cn v 9) = 8 := (nI_eq (b := 8) (by omega) (by decide)).mp b38
          refine e_ipush rfl ?_
          exact Eg.ret rfl (by decide) rfl (Or.inr ⟨fun q => absurd q.2.2.2 (by omega), rfl, rfl⟩)
end MA
