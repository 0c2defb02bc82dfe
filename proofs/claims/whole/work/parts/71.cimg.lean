/-! IMAGES, the one side -/
section CI
variable {X : xX} {h : xH} {sh : List (Nat × Nat)} {I : Nat → Nat → Int32} {L : Nat → Nat → Int64} {R : Nat → Nat → Option Nat} {v : Nat → Nat → Int32} {w s m : Nat}
theorem up_at {sh : List (Nat × Nat)} {e : List (Nat × Nat)} {i : Nat} {t : Nat × Nat} (hi : sh[i]? = some t) : (sh ++ e)[i]? = some t := by
  rw [List.getElem?_append_left (List.getElem?_eq_some_iff.mp hi).1]; exact hi
theorem WorldAt.gr {sh' : List (Nat × Nat)} {R' : Nat → Nat → Option Nat} (h : WorldAt sh R w) (hs : ∃ e, sh' = sh ++ e) (hR : R' w = R w) (hR7x : R' (w + 7) = R (w + 7)) : WorldAt sh' R' w := by
  obtain ⟨e, rfl⟩ := hs
  unfold WorldAt at h ⊢
  rw [hR, hR7x]
  obtain ⟨h1x, h2x, h3x, h4x, h5x, h6x, h7x, h8x, h9x, h10x, h11x, h12x, h13x⟩ := h
  exact ⟨up_at h1x, h2x, ⟨up_at h3x.1, h3x.2⟩, ⟨up_at h4x.1, h4x.2⟩, ⟨up_at h5x.1, h5x.2⟩, ⟨up_at h6x.1, h6x.2⟩, ⟨up_at h7x.1, h7x.2⟩, ⟨up_at h8x.1, h8x.2⟩, ⟨up_at h9x.1, h9x.2⟩, ⟨up_at h10x.1, h10x.2⟩, ⟨up_at h11x.1, h11x.2⟩, ⟨up_at h12x.1, h12x.2⟩, up_at h13x.1, h13x.2⟩
theorem WRel.gr {sh' : List (Nat × Nat)} {I' : Nat → Nat → Int32} {R' : Nat → Nat → Option Nat} {P : Nat → Int32} {a : Nat} (h : WRel sh I R w s v P a) (hs : ∃ e, sh' = sh ++ e) (hI : ∀ i, w ≤ i → i ≤ w + 200 → I' i = I i) (hR : ∀ i, w ≤ i → i ≤ w + 200 → R' i = R i) : WRel sh' I' R' w s v P a := by
  obtain ⟨h1x, h2x, h3x, h4x, h5x, h6x, h7x, p, a1x, a2x, a3x, a4x⟩ := h
  refine ⟨h1x.gr hs (hR _ (by omega) (by omega)) (hR _ (by omega) (by omega)), h2x.gr hs (hR _ (by omega) (by omega)), by rw [hR _ (by omega) (by omega)]; exact h3x, h4x.fr (fun i k q1x q2x => by rw [hI i (by omega) (by omega)]), h5x.fr (fun i k q1x q2x => by rw [hI i (by omega) (by omega)]), by rw [hI _ (by omega) (by omega)]; exact h6x, h7x, p, fun i hi => ?_, a2x, fun i hi => ?_, fun i hi => ?_⟩
  · rw [hR _ (by omega) (by omega)]; exact a1x i hi
  · exact (a3x i hi).gr hs (hR _ (by omega) (by omega))
  · have := (a1x i (by omega)).1
    rw [hR _ (by omega) (by omega)]
    exact ⟨(a4x i hi).1, (a4x i hi).2.fr (fun j k q1x q2x => by rw [hI j (by omega) (by omega)])⟩
theorem WSh.fr {R' : Nat → Nat → Option Nat} {p : Nat → Nat} (h : WSh sh R w p) (hR : ∀ i k, w ≤ i → i ≤ w + 200 → (i < w + 12 ∨ k ≠ 0) → R' i k = R i k) : WSh sh R' w p := by
  obtain ⟨h1x, h2x, h3x, h4x, h5x⟩ := h
  refine ⟨h1x.frR (fun k => hR _ k (by omega) (by omega) (by omega)) (fun k => hR _ k (by omega) (by omega) (by omega)), h2x.frR (fun k hk => hR _ k (by omega) (by omega) (by omega)), fun i hi => ?_, h4x, fun i hi => (h5x i hi).frR (fun k hk => hR _ k (by omega) (by omega) (by omega))⟩
  rw [hR _ _ (by omega) (by omega) (by omega)]; exact h3x i hi
theorem WRel.fr {I' : Nat → Nat → Int32} {R' : Nat → Nat → Option Nat} {P : Nat → Int32} {a : Nat} (h : WRel sh I R w s v P a) (hI : ∀ i k, w ≤ i → i ≤ w + 200 → I' i k = I i k) (hR : ∀ i k, w ≤ i → i ≤ w + 200 → R' i k = R i k) : WRel sh I' R' w s v P a :=
  h.gr ⟨[], by simp⟩ (fun i q1x q2x => funext (fun k => hI i k q1x q2x)) (fun i q1x q2x => funext (fun k => hR i k q1x q2x))
theorem cf_image37 {t wt a : Nat} {P : Nat → Int32} {p : Nat → Nat} (h0x : sh[0]? = some (11, 13)) (r7x : R 0 7 = some w) (r8x : R 0 8 = some 236) (s8x : sh[236]? = some (25, 4)) (ht : t < 4) (rt : R 236 t = some wt) (hwt : 236 < wt) (hw0x : w + 200 < 236) (hA : WSh sh R wt p) (hO : WRel sh I R w s v P a) (hw : Wf v) (hpw : ∀ i, i < a → Wf (pvw P v i)) : Eg X xTc 2 172 37 [(0, .ref 0), (1, .int (nI t))] [] (sh, I, L, R) (fun r h' => r = some (.int (nI (cn v 7))) ∧ ∃ J R', h' = (sh, J, L, R') ∧ WRel sh J R' wt s v P a ∧ (∀ i k, i < wt ∨ wt + 200 < i → J i k = I i k) ∧ ∀ x k, (x < wt + 12 ∨ wt + 200 < x ∨ k ≠ 0) → R' x k = R x k) := by
  refine e_aload rfl rfl ?_
  refine e_getR rfl h0x r8x ?_
  refine e_iload rfl rfl ?_
  refine e_aald25 rfl s8x (vp_in_nI ht (by decide)) (by rw [nI_clamp (by omega)]; exact rt) ?_
  refine e_aload rfl rfl ?_
  refine e_getR rfl h0x r7x ?_
  refine Eg.c2 rfl (by decide) (by decide) rfl (Nat.le_of_ble_eq_true rfl) (xrcv_of rfl hA.1.1 rfl) ((cs_worldCopy (w := wt) (q := w) hA hO hw hpw (by omega)).mono (by decide)) (fun r1x h1x hq => ?_)
  obtain ⟨rfl, J, R1x, rfl, a1x, a2x, a3x⟩ := hq
  refine e_aload rfl rfl ?_
  refine e_getR rfl h0x ((a3x 0 7 (by omega)).trans r7x) ?_
  refine e_getR rfl hO.1.1 ((a3x w 0 (by omega)).trans hO.1.2.1) ?_
  refine e_getIv rfl hO.2.1.1 ((a2x (w + 12) 1 (by omega)).trans hO.2.2.2.1.1) ?_
  exact Eg.ret rfl (by decide) rfl ⟨rfl, J, R1x, rfl, a1x, a2x, a3x⟩
theorem cf_image {a : Nat} {P : Nat → Int32} {p : Nat → Nat → Nat} {wt : Nat → Nat} (h0x : sh[0]? = some (11, 13)) (r7x : R 0 7 = some w) (r5x : R 0 5 = some 9) (r8x : R 0 8 = some 236) (s8x : sh[236]? = some (25, 4)) (hl : 236 < sh.length) (hw0x : w + 200 < 236) (hO : WRel sh I R w s v P a) (hw : Wf v) (hpw : ∀ i, i < a → Wf (pvw P v i)) (him : ∀ t, t < 4 → R 236 t = none ∨ (R 236 t = some (wt t) ∧ 236 < wt t ∧ WSh sh R (wt t) (p t))) {x : Int32} : Ec X 3 172 [.ref 0, .int x] (sh, I, L, R) (fun r h' => ((x < 0 ∨ 3 < x) ∧ r = some (.int (-1)) ∧ h' = (sh, I, L, R)) ∨ ∃ t, t < 4 ∧ x = nI t ∧ r = some (.int (nI (cn v 7))) ∧ ∃ wt sh' I' L' R', h' = (sh', I', L', R') ∧ WRel sh' I' R' wt s v P a ∧ R' 236 t = some wt ∧ ((R 236 t = some wt ∧ sh' = sh) ∨ (R 236 t = none ∧ wt = sh.length ∧ sh' = sh ++ wsh)) ∧ (∀ i, i < sh.length → L' i = L i) ∧ (∀ i k, i < sh.length → (i < wt ∨ wt + 200 < i) → I' i k = I i k) ∧ ∀ i k, i < sh.length → (i ≠ 236 ∨ k ≠ t) → (i < wt + 12 ∨ wt + 200 < i ∨ k ≠ 0) → R' i k = R i k) := by
  refine Ec.of (Nat.le_of_ble_eq_true rfl) ?_
  refine e_iload rfl rfl ?_
  refine e_ipush rfl ?_
  refine e_ipush rfl ?_
  refine Eg.p3 rfl (by decide) (by decide) rfl (Nat.le_of_ble_eq_true rfl) (xrcv_ofs (Or.inl rfl)) (cs_withinY.mono (by decide)) ?_
  refine e_ifne_b rfl (fun b6x => ?_) (fun b6x => ?_)
  · replace b6x := yn_n0.mp b6x
    obtain ⟨t, ht, et⟩ := im_get b6x
    subst et
    refine Or.elim (him t ht) (fun hn => ?_) (fun hs => ?_)
    · refine e_aload rfl rfl ?_
      refine e_getR rfl h0x r8x ?_
      refine e_iload rfl rfl ?_
      refine e_aaldN25 rfl s8x (vp_in_nI ht (by decide)) (by rw [nI_clamp (by omega)]; exact hn) ?_
      refine e_nnull_f rfl ?_
      refine e_aload rfl rfl ?_
      refine e_getR rfl h0x r8x ?_
      refine e_iload rfl rfl ?_
      refine e_ob rfl ?_
      refine e_dupr rfl ?_
      refine e_aload rfl rfl ?_
      have lw : ∀ q, q < sh.length → q ≠ (sh, I, L, R).1.length := fun q hq => Nat.ne_of_lt hq
      refine e_gR (j := 9) rfl (xob_old h0x) ((congrFun (xz_ne (lw 0 (by omega))) 5).trans r5x) ?_
      refine Eg.c2 rfl (by decide) (by decide) rfl (Nat.le_of_ble_eq_true rfl) (xrcv_ofi (Or.inl rfl) rfl) (ct_world (xob_at _)) (fun r1x h1x hq => ?_)
      obtain ⟨rfl, rfl⟩ := hq
      obtain ⟨w1x, w2x, w3x⟩ := world_spec 9 (sh, I, L, R)
      change Eg X xTc 2 172 36 _ _ (world_new 9 (sh, I, L, R)) _
      revert w1x w2x w3x
      generalize world_new 9 (sh, I, L, R) = g
      intro w1x w2x w3x
      obtain ⟨sh1x, I1x, L1x, R1x⟩ := g
      have w1x : sh1x = sh ++ wsh := w1x
      have w3x : WSh sh1x R1x sh.length (fun i => i) := w3x
      have wI : ∀ i, i < sh.length → I1x i = I i := fun i hi => (w2x.2 i hi).1
      have wL : ∀ i, i < sh.length → L1x i = L i := fun i hi => (w2x.2 i hi).2.1
      have wR : ∀ i, i < sh.length → R1x i = R i := fun i hi => (w2x.2 i hi).2.2
      have a0x : sh1x[0]? = some (11, 13) := by rw [w1x]; exact up_at h0x
      have a8x : sh1x[236]? = some (25, 4) := by rw [w1x]; exact up_at s8x
      have b235x : w + 200 < sh.length := by omega
      refine e_aast25 rfl a8x w3x.1.1 (vp_in_nI ht (by decide)) ?_
      rw [nI_clamp (by omega)]
      refine (cf_image37 (t := t) (wt := sh.length) (p := fun i => i) a0x ((xu_o (by omega)).trans (by rw [wR 0 (by omega)]; exact r7x)) ((xu_o (by omega)).trans (by rw [wR 0 (by omega)]; exact r8x)) a8x ht xu_at hl hw0x (w3x.fr (fun i k q1x q2x q3x => xu_o (by omega))) (hO.gr ⟨wsh, w1x⟩ (fun i q1x q2x => wI i (by omega)) (fun i q1x q2x => (xu_ne (by omega)).trans (wR i (by omega)))) hw hpw).imp ?_
      rintro r h' ⟨rfl, J, R', rfl, c1x, c2x, c3x⟩
      refine Or.inr ⟨t, ht, rfl, rfl, sh.length, sh1x, J, L1x, R', rfl, c1x, (c3x 236 t (by omega)).trans xu_at, Or.inr ⟨hn, rfl, w1x⟩, wL, fun i k q1x q2x => ?_, fun i k q1x q2x q3x => ?_⟩
      · rw [c2x i k (by omega), wI i q1x]
      · rw [c3x i k (by omega), xu_o q2x, wR i q1x]
    · obtain ⟨hr, hgt, hsh⟩ := hs
      refine e_aload rfl rfl ?_
      refine e_getR rfl h0x r8x ?_
      refine e_iload rfl rfl ?_
      refine e_aald25 (j := wt t) rfl s8x (vp_in_nI ht (by decide)) (by rw [nI_clamp (by omega)]; exact hr) ?_
      refine e_nnull_t rfl ?_
      refine (cf_image37 (t := t) h0x r7x r8x s8x ht hr hgt hw0x hsh hO hw hpw).imp ?_
      rintro r h' ⟨rfl, J, R', rfl, c1x, c2x, c3x⟩
      exact Or.inr ⟨t, ht, rfl, rfl, wt t, sh, J, L, R', rfl, c1x, (c3x 236 t (by omega)).trans hr, Or.inl ⟨hr, rfl⟩, fun i _ => rfl, fun i k q1x q2x => c2x i k q2x, fun i k q1x q2x q3x => c3x i k q3x⟩
  · replace b6x := yn_0.mp b6x
    refine e_ipush rfl ?_
    exact Eg.ret rfl (by decide) rfl (Or.inl ⟨Decidable.not_not.mp b6x, rfl, rfl⟩)
theorem cf_back {a : Nat → Nat} {P : Nat → Nat → Int32} {p : Nat → Nat} {wt st : Nat → Nat} {V : Nat → Nat → Nat → Int32} (h0x : sh[0]? = some (11, 13)) (r7x : R 0 7 = some w) (r8x : R 0 8 = some 236) (s8x : sh[236]? = some (25, 4)) (hw00x : 0 < w) (hw0x : w + 200 < 236) (hA : WSh sh R w p) (him : ∀ t, t < 4 → R 236 t = none ∨ (R 236 t = some (wt t) ∧ 236 < wt t ∧ Wf (V t) ∧ (∀ i, i < a t → Wf (pvw (P t) (V t) i)) ∧ WRel sh I R (wt t) (st t) (V t) (P t) (a t))) {x : Int32} : Ec X 3 173 [.ref 0, .int x] (sh, I, L, R) (fun r h' => ((x < 0 ∨ 3 < x) ∧ r = some (.int (-1)) ∧ h' = (sh, I, L, R)) ∨ ∃ t, t < 4 ∧ x = nI t ∧ ((R 236 t = none ∧ r = some (.int (-1)) ∧ h' = (sh, I, L, R)) ∨ (R 236 t = some (wt t) ∧ r = some (.int (nI (cn (V t) 7))) ∧ ∃ J R', h' = (sh, J, L, R') ∧ WRel sh J R' w (st t) (V t) (P t) (a t) ∧ (∀ i k, i < w ∨ w + 200 < i → J i k = I i k) ∧ ∀ x k, (x < w + 12 ∨ w + 200 < x ∨ k ≠ 0) → R' x k = R x k))) := by
  refine Ec.of (Nat.le_of_ble_eq_true rfl) ?_
  refine e_iload rfl rfl ?_
  refine e_ipush rfl ?_
  refine e_ipush rfl ?_
  refine Eg.p3 rfl (by decide) (by decide) rfl (Nat.le_of_ble_eq_true rfl) (xrcv_ofs (Or.inl rfl)) (cs_withinY.mono (by decide)) ?_
  refine e_ifeq_b rfl (fun b6x => ?_) (fun b6x => ?_)
  · replace b6x := yn_0.mp b6x
    refine e_ipush rfl ?_
    exact Eg.ret rfl (by decide) rfl (Or.inl ⟨Decidable.not_not.mp b6x, rfl, rfl⟩)
  · replace b6x := yn_n0.mp b6x
    obtain ⟨t, ht, et⟩ := im_get b6x
    subst et
    refine Or.elim (him t ht) (fun hn => ?_) (fun hs => ?_)
    · refine e_aload rfl rfl ?_
      refine e_getR rfl h0x r8x ?_
      refine e_iload rfl rfl ?_
      refine e_aaldN25 rfl s8x (vp_in_nI ht (by decide)) (by rw [nI_clamp (by omega)]; exact hn) ?_
      refine e_nnull_f rfl ?_
      refine e_ipush rfl ?_
      exact Eg.ret rfl (by decide) rfl (Or.inr ⟨t, ht, rfl, Or.inl ⟨hn, rfl, rfl⟩⟩)
    · obtain ⟨hr, hgt, hwt, hpt, hO⟩ := hs
      refine e_aload rfl rfl ?_
      refine e_getR rfl h0x r8x ?_
      refine e_iload rfl rfl ?_
      refine e_aald25 rfl s8x (vp_in_nI ht (by decide)) (by rw [nI_clamp (by omega)]; exact hr) ?_
      refine e_nnull_t rfl ?_
      refine e_aload rfl rfl ?_
      refine e_getR rfl h0x r7x ?_
      refine e_aload rfl rfl ?_
      refine e_getR rfl h0x r8x ?_
      refine e_iload rfl rfl ?_
      refine e_aald25 rfl s8x (vp_in_nI ht (by decide)) (by rw [nI_clamp (by omega)]; exact hr) ?_
      refine Eg.c2 rfl (by decide) (by decide) rfl (Nat.le_of_ble_eq_true rfl) (xrcv_of rfl hA.1.1 rfl) ((cs_worldCopy (w := w) (q := wt t) hA hO hwt hpt (by omega)).mono (by decide)) (fun r1x h1x hq => ?_)
      obtain ⟨rfl, J, R1x, rfl, a1x, a2x, a3x⟩ := hq
      refine e_aload rfl rfl ?_
      refine e_getR rfl h0x ((a3x 0 7 (by omega)).trans r7x) ?_
      refine e_getR rfl hA.1.1 ((a3x w 0 (by omega)).trans hA.1.2.1) ?_
      refine e_getIv rfl hA.2.1.1 a1x.2.2.2.1.1 ?_
      exact Eg.ret rfl (by decide) rfl (Or.inr ⟨t, ht, rfl, Or.inr ⟨hr, rfl, J, R1x, rfl, a1x, a2x, a3x⟩⟩)
end CI
