/-! rule: the call, both sides -/
section MU14x
variable {X : xX} {h : xH} {sh : List (Nat × Nat)} {I : Nat → Nat → Int32} {L : Nat → Nat → Int64} {R : Nat → Nat → Option Nat} {B : Nat → Nat} {n ri p : Nat} {st : rS}
theorem MuV.fr {J : Nat → Nat → Int32} {cd : List (Nat × Nat)} {cl : List (Nat × Nat × Nat)} (h : MuV I ri cd cl) (e : ∀ i k, i = 338 ∨ i = 339 ∨ i = 341 ∨ i = 342 ∨ i = 343 ∨ i = 345 → J i k = I i k) : MuV J ri cd cl :=
  ⟨fun k x q => by rw [e 338 _ (by omega), e 339 _ (by omega)]; exact h.1 k x q, h.2.fr (fun i k q => e i k (by omega))⟩
theorem md_rule (hM : MW sh R) (hB : MB I B n) (h51x : I 290 51 = nI ri) (h56x : I 290 56 = 11) (h6x : ri ≤ 6) : Ec X 13 226 [.ref 290] (sh, I, L, R) (fun r h' => (ri = 6 ∧ r = some (.int (-1)) ∧ h' = (sh, I, L, R)) ∨ (ri < 6 ∧ ∃ J : Nat → Nat → Int32, h' = (sh, J, L, R) ∧ J 290 47 = nI 0 ∧ (∀ i k, (i ≠ 290 ∨ (k ≠ 47 ∧ k ≠ 48 ∧ k ≠ 49 ∧ k ≠ 50 ∧ k ≠ 51 ∧ k ≠ 52 ∧ k ≠ 53 ∧ k ≠ 54 ∧ k ≠ 55)) → ((i ≠ 338 ∧ i ≠ 339) ∨ k < 300 * ri ∨ 300 * ri + 300 ≤ k) → i ≠ 344 → ((i ≠ 341 ∧ i ≠ 342 ∧ i ≠ 343 ∧ i ≠ 345) ∨ k < 12 * ri ∨ 12 * ri + 12 ≤ k) → (i ≠ 340 ∨ k ≠ ri) → J i k = I i k) ∧ ((¬ (rRule B n).1 = 0 ∧ r = some (.int (-2 - (rRule B n).1)) ∧ J 290 51 = nI ri) ∨ ((rRule B n).1 = 0 ∧ r = some (.int (nI ri)) ∧ J 290 51 = nI (ri + 1) ∧ J 340 ri = nI (rRule B n).2.2.length ∧ MuV J ri (rRule B n).2.1.2.2 (rRule B n).2.2)))) := by
  have hft := (rRule_ok (B := B) hB.1).1
  generalize eF : (rRule B n).1 = F at hft
  refine Ec.of (Nat.le_of_ble_eq_true rfl) ?_
  by_cases e6x : ri = 6
  · refine e_aload rfl rfl ?_
    refine e_getIv rfl hM.1 h51x ?_
    refine e_ipush rfl ?_
    refine e_cne_f rfl (by rw [e6x]; rfl) ?_
    refine e_ipush rfl ?_
    exact Eg.ret rfl (by decide) rfl (Or.inl ⟨e6x, rfl, rfl⟩)
  · refine e_aload rfl rfl ?_
    refine e_getIv rfl hM.1 h51x ?_
    refine e_ipush rfl ?_
    refine e_cne_t rfl (fun q => e6x ((nI_eq (b := 6) (by omega) (by decide)).mp q)) ?_
    refine e_aload rfl rfl ?_
    refine e_aload rfl rfl ?_
    refine e_getIv rfl hM.1 h51x ?_
    refine e_putIJ rfl hM.1 (fun J1x g1x f1x => ?_)
    have hB1x : MB J1x B n := ⟨hB.1, (f1x 290 47 (by decide)).trans hB.2.1, fun j hj => ⟨(hB.2.2 j hj).1, (f1x 337 j (by omega)).trans (hB.2.2 j hj).2⟩⟩
    refine e_aload rfl rfl ?_
    refine Eg.c1 rfl (by decide) (by decide) rfl (Nat.le_of_ble_eq_true rfl) (xrcv_of rfl hM.1 rfl) ((ms_starts hM hB1x).mono (by decide)) (fun r1x h1x hq => ?_)
    obtain ⟨rfl, K, rfl, k1x, k2x, k3x, k4x, k5x⟩ := hq
    refine e_ipush rfl ?_
    refine e_istore rfl ?_
    refine e_ipush rfl ?_
    refine e_istore rfl ?_
    refine Eg.pk [0, 1, 2] [2, 1, 0] rfl (by decide) ?_
    have k50x : K 290 50 = nI ri := (k5x 290 50 (by decide)).trans g1x
    have k51x : K 290 51 = nI ri := (k5x 290 51 (by decide)).trans ((f1x 290 51 (by decide)).trans h51x)
    have k56x : K 290 56 = 11 := (k5x 290 56 (by decide)).trans ((f1x 290 56 (by decide)).trans h56x)
    refine ms_ruleLoop hM (ri := ri) 13 0 (skp B n 0, 0, []) [] K (by decide) (by decide) ⟨k1x, Nat.zero_le _, rfl, k4x, Nat.zero_le _, k2x, by show 2 * 0 ≤ _; omega, ⟨k50x, by omega, k56x⟩, fun k e q => by cases q⟩ k3x (fun j c q => by cases q) ?_
    intro J i a b c d
    change J 290 49 = (rRule B n).1 at c
    rw [eF] at c
    have j50x : J 290 50 = nI ri := (a 290 50 (by decide) (by omega) (by decide) (by omega)).trans k50x
    have j51x : J 290 51 = nI ri := (a 290 51 (by decide) (by omega) (by decide) (by omega)).trans k51x
    refine e_aload rfl rfl ?_
    refine e_ipush rfl ?_
    refine e_putIJ rfl hM.1 (fun J11x g11x f11x => ?_)
    refine e_aload rfl rfl ?_
    refine e_getR rfl hM.1 (show R 290 61 = some 340 from (hM.2 49 _ rfl).2) ?_
    refine e_aload rfl rfl ?_
    refine e_getIv rfl hM.1 ((f11x 290 50 (Or.inr (by decide))).trans j50x) ?_
    refine e_iload rfl rfl ?_
    refine e_iasJ (t := ri) (n := 6) rfl (show sh[340]? = some (20, 6) from (hM.2 49 _ rfl).1) rfl (by omega) (by decide) (fun J12x g12x f12x => ?_)
    refine e_aload rfl rfl ?_
    refine e_dupr rfl ?_
    refine e_getIv rfl hM.1 ((f12x 290 51 (Or.inl (by omega))).trans ((f11x 290 51 (Or.inr (by decide))).trans j51x)) ?_
    refine e_aload rfl rfl ?_
    refine e_getIv rfl hM.1 ((f12x 290 49 (Or.inl (by omega))).trans ((f11x 290 49 (Or.inr (by decide))).trans c)) ?_
    refine e_ifne_b rfl (fun b71x => ?_) (fun b71x => ?_)
    · refine e_ipush rfl ?_
      refine e_iadd rfl ?_
      refine e_putIJ rfl hM.1 (fun J13x g13x f13x => ?_)
      refine e_aload rfl rfl ?_
      refine e_getIv rfl hM.1 ((f13x 290 49 (Or.inr (by decide))).trans ((f12x 290 49 (Or.inl (by omega))).trans ((f11x 290 49 (Or.inr (by decide))).trans c))) ?_
      refine e_ifle_f rfl (fun q => b71x (hft.elim id (fun ⟨e, e1x, e2x, e3x⟩ => by rw [e3x] at q; have := (nI_le0 (by omega)).mp q; omega))) ?_
      refine e_ipush rfl ?_
      refine e_aload rfl rfl ?_
      refine e_getIv rfl hM.1 ((f13x 290 49 (Or.inr (by decide))).trans ((f12x 290 49 (Or.inl (by omega))).trans ((f11x 290 49 (Or.inr (by decide))).trans c))) ?_
      refine e_isub rfl ?_
      refine e_goto rfl ?_
      exact Eg.ret rfl (by decide) rfl (Or.inr ⟨by omega, J13x, rfl, (f13x 290 47 (by decide)).trans ((f12x 290 47 (Or.inl (by decide))).trans g11x), fun p q x1x x2x x3x x4x x5x => (f13x p q (by omega)).trans ((f12x p q (by omega)).trans ((f11x p q (by omega)).trans ((a p q (by omega) x2x x3x x4x).trans ((k5x p q (by omega)).trans (f1x p q (by omega)))))), Or.inl ⟨b71x, rfl, g13x.trans (by grind)⟩⟩)
    · refine e_ipush rfl ?_
      refine e_goto rfl ?_
      refine e_iadd rfl ?_
      refine e_putIJ rfl hM.1 (fun J14x g14x f14x => ?_)
      refine e_aload rfl rfl ?_
      refine e_getIv rfl hM.1 ((f14x 290 49 (Or.inr (by decide))).trans ((f12x 290 49 (Or.inl (by omega))).trans ((f11x 290 49 (Or.inr (by decide))).trans c))) ?_
      refine e_ifle_t rfl (by rw [b71x]; decide) ?_
      refine e_aload rfl rfl ?_
      refine e_getIv rfl hM.1 g14x ?_
      refine e_ipush rfl ?_
      refine e_isub rfl ?_
      rw [show ((nI ri) + 1) - 1 = nI ri from (by grind)]
      obtain ⟨ei, mu⟩ := d (eF.trans b71x)
      exact Eg.ret rfl (by decide) rfl (Or.inr ⟨by omega, J14x, rfl, (f14x 290 47 (by decide)).trans ((f12x 290 47 (Or.inl (by decide))).trans g11x), fun p q x1x x2x x3x x4x x5x => (f14x p q (by omega)).trans ((f12x p q (by omega)).trans ((f11x p q (by omega)).trans ((a p q (by omega) x2x x3x x4x).trans ((k5x p q (by omega)).trans (f1x p q (by omega)))))), Or.inr ⟨b71x, rfl, g14x.trans (nI_1 ri), (f14x 340 ri (by omega)).trans (g12x.trans (by rw [ei]; rfl)), mu.fr (fun x y q => (f14x x y (by omega)).trans ((f12x x y (by omega)).trans (f11x x y (by omega))))⟩⟩)
theorem cf_rule {ru : Nat} (h0x : sh[0]? = some (11, 13)) (r00x : R 0 0 = some 1) (r02x : R 0 2 = some 7) (r03x : R 0 3 = some 8) (s8x : sh[8]? = some (24, 6)) (hT : TpAt sh R) (hB : TpB I B n) (h7x : sh[7]? = some (6, 3)) (r70x : R 7 0 = some 1) (h04x : I 0 4 = nI ri) (h6x : ri ≤ 6) (hU : ri < 6 → R 8 ri = some ru ∧ RuAt sh R ru ∧ 9 ≤ ru) : Ec X 28 142 [.ref 0] (sh, I, L, R) (fun r h' => (ri = 6 ∧ r = some (.int (-1)) ∧ h' = (sh, I, L, R)) ∨ (ri < 6 ∧ ∃ J : Nat → Nat → Int32, h' = (sh, J, L, xu R 7 1 (some ru)) ∧ J 1 1 = nI 0 ∧ (∀ i k, i ≠ 3 → i ≠ 4 → i ≠ 5 → (i ≠ 1 ∨ (k ≠ 1 ∧ k ≠ 2 ∧ k ≠ 6 ∧ k ≠ 7)) → (i < ru ∨ ru + 4 < i) → (i ≠ 7 ∨ k ≠ 2) → (i ≠ 0 ∨ k ≠ 4) → J i k = I i k) ∧ ((¬ (rRule B n).1 = 0 ∧ r = some (.int (-2 - (rRule B n).1)) ∧ J 0 4 = nI ri) ∨ ((rRule B n).1 = 0 ∧ r = some (.int (nI ri)) ∧ J 0 4 = nI (ri + 1) ∧ RuV J ru (rRule B n).2.1.2.2 (rRule B n).2.2)))) := by
  refine Ec.of (Nat.le_of_ble_eq_true rfl) ?_
  by_cases e6x : ri = 6
  · refine e_aload rfl rfl ?_
    refine e_getIv rfl h0x h04x ?_
    refine e_ipush rfl ?_
    refine e_clt_f rfl (by rw [e6x]; decide) ?_
    refine e_ipush rfl ?_
    exact Eg.ret rfl (by decide) rfl (Or.inl ⟨e6x, rfl, rfl⟩)
  · obtain ⟨r8x, hU, h9x⟩ := hU (by omega)
    refine e_aload rfl rfl ?_
    refine e_getIv rfl h0x h04x ?_
    refine e_ipush rfl ?_
    refine e_clt_t rfl ((nI_lti (b := 6) (by omega) (by decide)).mpr (by omega)) ?_
    refine e_aload rfl rfl ?_
    refine e_getR rfl h0x r02x ?_
    refine e_aload rfl rfl ?_
    refine e_getR rfl h0x r03x ?_
    refine e_aload rfl rfl ?_
    refine e_getIv rfl h0x h04x ?_
    refine e_aald24 rfl s8x (vp_in_nI (by omega) (by decide)) (by rw [nI_clamp (by omega)]; exact r8x) ?_
    refine Eg.c2 rfl (by decide) (by decide) rfl (Nat.le_of_ble_eq_true rfl) (xrcv_of rfl h7x rfl) ((cs_rread hT hB h7x r70x hU h9x).mono (by decide)) (fun r1x h1x hq => ?_)
    obtain ⟨rfl, J, rfl, q3x, q4x, q5x⟩ := hq
    refine e_istore rfl ?_
    refine e_aload rfl rfl ?_
    refine e_getR rfl h0x (show xu R 7 1 (some ru) 0 0 = some 1 from r00x) ?_
    refine e_ipush rfl ?_
    refine e_putIJ rfl hT.1 (fun J1x g1x f1x => ?_)
    refine e_iload rfl rfl ?_
    refine e_ifeq_b rfl (fun b37x => ?_) (fun b37x => ?_)
    · refine e_aload rfl rfl ?_
      refine e_dupr rfl ?_
      refine e_getIv rfl h0x ((f1x 0 4 (Or.inl (by omega))).trans ((q5x 0 4 (by decide) (by decide) (by decide) (by decide) (by omega) (by decide)).trans h04x)) ?_
      refine e_ipush rfl ?_
      refine e_iadd rfl ?_
      refine e_putIJ rfl h0x (fun J2x g2x f2x => ?_)
      refine e_aload rfl rfl ?_
      refine e_getIv rfl h0x g2x ?_
      refine e_ipush rfl ?_
      refine e_isub rfl ?_
      rw [show ((nI ri) + 1) - 1 = nI ri from (by grind)]
      exact Eg.ret rfl (by decide) rfl (Or.inr ⟨by omega, J2x, rfl, (f2x 1 1 (by decide)).trans g1x, fun i k x1x x2x x3x x4x x5x x6x x7x => (f2x i k (by omega)).trans ((f1x i k (by omega)).trans (q5x i k x1x x2x x3x (by omega) x5x x6x)), Or.inr ⟨b37x, rfl, g2x.trans (nI_1 ri), (q4x b37x).fr (fun i k y1x y2x => (f2x i k (by omega)).trans (f1x i k (by omega)))⟩⟩)
    · refine e_ipush rfl ?_
      refine e_iload rfl rfl ?_
      refine e_isub rfl ?_
      exact Eg.ret rfl (by decide) rfl (Or.inr ⟨by omega, J1x, rfl, g1x, fun i k x1x x2x x3x x4x x5x x6x x7x => (f1x i k (by omega)).trans (q5x i k x1x x2x x3x (by omega) x5x x6x), Or.inl ⟨b37x, rfl, (f1x 0 4 (by decide)).trans ((q5x 0 4 (by decide) (by decide) (by decide) (by decide) (by omega) (by decide)).trans h04x)⟩⟩)
end MU14x
