/-! voyage: the other side, sails -/
section VM2x
variable {X : xX} {h : xH} {sh : List (Nat × Nat)} {I : Nat → Nat → Int32} {L : Nat → Nat → Int64} {R : Nat → Nat → Option Nat} {v : Nat → Nat → Int32}
theorem ex_s {P : Nat → Prop} {n : Nat} : ((∃ i, i < n ∧ P i) ∨ P n) ↔ ∃ i, i < n + 1 ∧ P i := by
  constructor
  · rintro (⟨i, h1x, h2x⟩ | h)
    · exact ⟨i, by omega, h2x⟩
    · exact ⟨n, by omega, h⟩
  · rintro ⟨i, h1x, h2x⟩
    by_cases e : i = n
    · subst e; exact Or.inr h2x
    · exact Or.inl ⟨i, by omega, h2x⟩
def SO (v : Nat → Nat → Int32) (sp to fj ff : Nat) (fd fc : Int32) : Prop := (fd = -1 ∧ ∀ t, 1 ≤ t → t ≤ 300 → ∀ w k, ¬ rSt v sp fj ff t to w k) ∨ ∃ t k, 1 ≤ t ∧ t ≤ 300 ∧ fd = nI (cn v 7 + t) ∧ fc = nI k ∧ (∃ w, rSt v sp fj ff t to w k) ∧ (∀ w k', rSt v sp fj ff t to w k' → k ≤ k') ∧ ∀ t', 1 ≤ t' → t' < t → ∀ w k', ¬ rSt v sp fj ff t' to w k'
def BV (v : Nat → Nat → Int32) (sp to n : Nat) (b : Nat → Int32) : Prop := (b 0 = -1 ∧ ∀ t k q, ¬ vS v sp to n t k q) ∨ ∃ t k q, LM (vS v sp to n) t k q ∧ b 0 = nI (cn v 7 + t) ∧ b 1 = nI k ∧ b 2 = wy (q / 2) ∧ b 3 = nI (q % 2)
def Bt (fd fc b0x b1x : Int32) : Prop := ¬ fd = -1 ∧ (b0x = -1 ∨ fd < b0x ∨ fd = b0x ∧ fc < b1x)
theorem vS_up {sp to n t k q : Nat} (h : vS v sp to (n + 1) t k q) : vS v sp to n t k q ∨ q = n ∧ 1 ≤ t ∧ t ≤ 300 ∧ ∃ w, rSt v sp (n / 2) (n % 2) t to w k := by
  obtain ⟨h1x, h2x, h3x, h4x⟩ := h
  by_cases e : q = n
  · subst e; exact Or.inr ⟨rfl, h2x, h3x, h4x⟩
  · exact Or.inl ⟨by omega, h2x, h3x, h4x⟩
theorem vS_b (hw : Wf v) {sp to n t k q : Nat} (hs : sp < cn v 4) (h : vS v sp to n t k q) : t ≤ 300 ∧ k ≤ 900000 := by
  obtain ⟨h1x, h2x, h3x, w, h4x⟩ := h
  have := rSt_b hw hs _ _ _ _ h4x
  omega
theorem BV_y (hw : Wf v) {sp to n : Nat} (hs : sp < cn v 4) {fd fc : Int32} {b b' : Nat → Int32} (h : BV v sp to n b) (so : SO v sp to (n / 2) (n % 2) fd fc) (hb : Bt fd fc (b 0) (b 1)) (e0x : b' 0 = fd) (e1x : b' 1 = fc) (e2x : b' 2 = wy (n / 2)) (e3x : b' 3 = nI (n % 2)) : BV v sp to (n + 1) b' := by
  have h7x : cn v 7 ≤ 20000 := hw.1.2.2.2.2.2.2.2.2.1
  rcases so with ⟨s1x, _⟩ | ⟨t, k, s1x, s2x, s3x, s4x, ⟨w, s5x⟩, s6x, s7x⟩
  · exact absurd s1x hb.1
  · have kb := rSt_b hw hs _ _ _ _ s5x
    right
    refine ⟨t, k, n, ⟨⟨by omega, s1x, s2x, w, s5x⟩, ?_⟩, e0x.trans s3x, e1x.trans s4x, e2x, e3x⟩
    intro t' k' q' hq
    rcases vS_up hq with hq | ⟨rfl, q1x, q2x, w', q3x⟩
    · have qb := vS_b hw hs hq
      rcases h with ⟨_, h2x⟩ | ⟨t2x, k2x, q2x, l, a0x, a1x, _⟩
      · exact absurd hq (h2x _ _ _)
      · have lb := vS_b hw hs l.1
        have l2x := l.2 _ _ _ hq
        have hb2x := hb.2
        rw [a0x, a1x, s3x, s4x] at hb2x
        rcases hb2x with z | z | ⟨z1x, z2x⟩
        · exact absurd z (nI_m1' (by omega))
        · have := (nI_lti (by omega) (by omega)).mp z; omega
        · have y1x := (nI_ij (by omega) (by omega)).mp z1x
          have y2x := (nI_lti (by omega) (by omega)).mp z2x
          omega
    · rcases Nat.lt_trichotomy t' t with c | c | c
      · exact absurd q3x (s7x t' q1x c _ _)
      · subst c; have := s6x _ _ q3x; omega
      · exact Or.inl c
theorem BV_n (hw : Wf v) {sp to n : Nat} (hs : sp < cn v 4) {fd fc : Int32} {b : Nat → Int32} (h : BV v sp to n b) (so : SO v sp to (n / 2) (n % 2) fd fc) (hb : ¬ Bt fd fc (b 0) (b 1)) : BV v sp to (n + 1) b := by
  have h7x : cn v 7 ≤ 20000 := hw.1.2.2.2.2.2.2.2.2.1
  have wide : ∀ t k q, vS v sp to n t k q → vS v sp to (n + 1) t k q := fun t k q h => ⟨by have := h.1; omega, h.2⟩
  rcases h with ⟨h1x, h2x⟩ | ⟨t2x, k2x, q2x, l, a0x, a1x, a2x⟩
  · left
    refine ⟨h1x, fun t k q hq => ?_⟩
    rcases vS_up hq with hq | ⟨rfl, q1x, q2x, w', q3x⟩
    · exact h2x _ _ _ hq
    · rcases so with ⟨_, s2x⟩ | ⟨t', k', s1x, s2x, s3x, s4x, s5x⟩
      · exact s2x t q1x q2x _ _ q3x
      · exact hb ⟨fun e => by rw [s3x] at e; exact nI_m1' (by omega) e, Or.inl h1x⟩
  · right
    refine ⟨t2x, k2x, q2x, ⟨wide _ _ _ l.1, ?_⟩, a0x, a1x, a2x⟩
    intro t' k' q' hq
    have lb := vS_b hw hs l.1
    have l1x := l.1.1
    rcases vS_up hq with hq | ⟨rfl, q1x, q2', w', q3x⟩
    · exact l.2 _ _ _ hq
    · rcases so with ⟨_, s2x⟩ | ⟨t, k, s1x, s2x, s3x, s4x, ⟨w, s5x⟩, s6x, s7x⟩
      · exact absurd q3x (s2x t' q1x q2' _ _)
      · have kb := rSt_b hw hs _ _ _ _ s5x
        have ht : t ≤ t' := Decidable.byContradiction (fun c => s7x t' q1x (by omega) _ _ q3x)
        have nb : ¬ (t < t2x ∨ t = t2x ∧ k < k2x) := by
          intro c
          refine hb ⟨fun e => by rw [s3x] at e; exact nI_m1' (by omega) e, Or.inr ?_⟩
          rw [a0x, a1x, s3x, s4x]
          rcases c with c | ⟨c1x, c2x⟩
          · exact Or.inl ((nI_lti (by omega) (by omega)).mpr (by omega))
          · exact Or.inr ⟨by rw [c1x], (nI_lti (by omega) (by omega)).mpr c2x⟩
        by_cases c : t = t'
        · subst c; have := s6x _ _ q3x; omega
        · omega
theorem BV_0 {sp to : Nat} {b : Nat → Int32} (h : b 0 = -1) : BV v sp to 0 b := Or.inl ⟨h, fun t k q h => absurd h.1 (Nat.not_lt_zero _)⟩
theorem ms_laysHeights (hM : MW sh R) (hv : mV I v) (hw : Wf v) {t : Nat} : Ec X 6 272 [.ref 290, .int (nI (cn v 7 + t))] (sh, I, L, R) (fun r h' => r = none ∧ ∃ J : Nat → Nat → Int32, h' = (sh, J, L, R) ∧ VH J v t ∧ (∀ i k, i ≠ 352 → i ≠ 353 → i ≠ 354 → J i k = I i k)) := by
  have hb := hw.1.2
  refine Ec.of (Nat.le_of_ble_eq_true rfl) ?_
  refine e_ipush rfl ?_
  refine e_istore rfl ?_
  refine Eg.pk [0, 1, 2] [2, 0, 1] rfl (by decide) ?_
  refine up_ind (p := fun c => ∀ J : Nat → Nat → Int32, (∀ d, d < c → J 352 d = vH v t d ∧ J 353 d = vH v (t + 1) d ∧ J 354 d = wlo v d (nI (cn v 7 + t))) → (∀ i k, i ≠ 352 → i ≠ 353 → i ≠ 354 → J i k = I i k) → Eg X xTc 5 272 2 [(0, .ref 290), (1, .int (nI (cn v 7 + t))), (2, .int (nI c))] [] (sh, J, L, R) (fun r h' => r = none ∧ ∃ J : Nat → Nat → Int32, h' = (sh, J, L, R) ∧ VH J v t ∧ (∀ i k, i ≠ 352 → i ≠ 353 → i ≠ 354 → J i k = I i k))) (n := cn v 0) (j := 0) (fun c hc ih J k1x k2x => ?_) (fun J k1x k2x => ?_) (Nat.zero_le _) I (fun d q => absurd q (by omega)) (fun _ _ _ _ _ => rfl)
  · have mJ : mV J v := hv.fz (fun i k q1x q2x => k2x i k (by omega) (by omega) (by omega))
    refine e_iload rfl rfl ?_
    refine e_aload rfl rfl ?_
    refine e_getR rfl hM.1 (show R 290 1 = some 291 from (hM.2 0 _ rfl).2) ?_
    refine e_ipush rfl ?_
    refine e_ialv (t := 0) (n := 14) rfl (show sh[291]? = some (20, 14) from (hM.2 0 _ rfl).1) rfl (by decide) (by decide) (mJ.n hw (j := 0) (by decide)) ?_
    refine e_cge_f rfl (nI_ge hc (by omega)) ?_
    refine e_aload rfl rfl ?_
    refine e_getR rfl hM.1 (show R 290 76 = some 352 from (hM.2 61 _ rfl).2) ?_
    refine e_iload rfl rfl ?_
    refine e_aload rfl rfl ?_
    refine e_iload rfl rfl ?_
    refine e_iload rfl rfl ?_
    refine Eg.p3 rfl (by decide) (by decide) rfl (Nat.le_of_ble_eq_true rfl) (xrcv_of rfl hM.1 rfl) ((ms_heightNow hM (mJ.fz (fun i k q1x q2x => rfl)) hw (c := c) (by omega)).mono (by decide)) ?_
    refine e_iasJ (t := c) (n := 12) rfl (show sh[352]? = some (20, 12) from (hM.2 61 _ rfl).1) rfl (by omega) (by decide) (fun J11x g11x f11x => ?_)
    refine e_aload rfl rfl ?_
    refine e_getR rfl hM.1 (show R 290 77 = some 353 from (hM.2 62 _ rfl).2) ?_
    refine e_iload rfl rfl ?_
    refine e_aload rfl rfl ?_
    refine e_iload rfl rfl ?_
    refine e_iload rfl rfl ?_
    refine e_ipush rfl ?_
    refine e_iadd rfl ?_
    rw [show (nI (cn v 7 + t)) + (1 : Int32) = nI (cn v 7 + (t + 1)) from nI_1 _]
    refine Eg.p3 rfl (by decide) (by decide) rfl (Nat.le_of_ble_eq_true rfl) (xrcv_of rfl hM.1 rfl) ((ms_heightNow hM (mJ.fz (fun i k q1x q2x => (f11x i k (Or.inl (by omega))))) hw (c := c) (by omega)).mono (by decide)) ?_
    refine e_iasJ (t := c) (n := 12) rfl (show sh[353]? = some (20, 12) from (hM.2 62 _ rfl).1) rfl (by omega) (by decide) (fun J12x g12x f12x => ?_)
    refine e_aload rfl rfl ?_
    refine e_getR rfl hM.1 (show R 290 78 = some 354 from (hM.2 63 _ rfl).2) ?_
    refine e_iload rfl rfl ?_
    refine e_aload rfl rfl ?_
    refine e_iload rfl rfl ?_
    refine e_iload rfl rfl ?_
    refine Eg.p3 rfl (by decide) (by decide) rfl (Nat.le_of_ble_eq_true rfl) (xrcv_of rfl hM.1 rfl) ((ms_wellAt hM (mJ.fz (fun i k q1x q2x => ((f12x i k (Or.inl (by omega))).trans (f11x i k (Or.inl (by omega)))))) hw (c := c) (by omega)).mono (by decide)) ?_
    refine e_iasJ (t := c) (n := 12) rfl (show sh[354]? = some (20, 12) from (hM.2 63 _ rfl).1) rfl (by omega) (by decide) (fun J13x g13x f13x => ?_)
    refine e_iinc rfl rfl ?_
    refine e_goto rfl ?_
    refine Eg.pk [0, 1, 2] [2, 0, 1] rfl (by decide) ?_
    rw [nI_1]
    refine ih J13x (fun d q => ?_) (fun i k q1x q2x q3x => (f13x i k (Or.inl q3x)).trans ((f12x i k (Or.inl q2x)).trans ((f11x i k (Or.inl q1x)).trans (k2x i k q1x q2x q3x))))
    by_cases e : d = c
    · subst e; exact ⟨(f13x _ _ (Or.inl (by decide))).trans ((f12x _ _ (Or.inl (by decide))).trans g11x), (f13x _ _ (Or.inl (by decide))).trans g12x, g13x⟩
    · have z := k1x d (by omega)
      exact ⟨(f13x _ _ (Or.inr e)).trans ((f12x _ _ (Or.inr e)).trans ((f11x _ _ (Or.inr e)).trans z.1)), (f13x _ _ (Or.inr e)).trans ((f12x _ _ (Or.inr e)).trans ((f11x _ _ (Or.inr e)).trans z.2.1)), (f13x _ _ (Or.inr e)).trans ((f12x _ _ (Or.inr e)).trans ((f11x _ _ (Or.inr e)).trans z.2.2))⟩
  · have mJ : mV J v := hv.fz (fun i k q1x q2x => k2x i k (by omega) (by omega) (by omega))
    refine e_iload rfl rfl ?_
    refine e_aload rfl rfl ?_
    refine e_getR rfl hM.1 (show R 290 1 = some 291 from (hM.2 0 _ rfl).2) ?_
    refine e_ipush rfl ?_
    refine e_ialv (t := 0) (n := 14) rfl (show sh[291]? = some (20, 14) from (hM.2 0 _ rfl).1) rfl (by decide) (by decide) (mJ.n hw (j := 0) (by decide)) ?_
    refine e_cge_t rfl (Int32.le_refl _) ?_
    exact Eg.ret rfl (by decide) rfl ⟨rfl, J, rfl, ⟨mJ, k1x⟩, k2x⟩
theorem ms_leastAt (hM : MW sh R) {E : Nat → Nat → Nat → Prop} {to : Nat} (hT : TB 1000000000 I 350 E) (hto : to < 12) : Ec X 1 276 [.ref 290, .int (nI to)] (sh, I, L, R) (fun r h' => ∃ y, r = some (.int (nI y)) ∧ h' = (sh, I, L, R) ∧ tab 1000000000 (fun k => ∃ w, w < 31 ∧ E to w k) y) := by
  refine Ec.of (Nat.le_of_ble_eq_true rfl) ?_
  refine e_ipush rfl ?_
  refine e_istore rfl ?_
  refine e_ipush rfl ?_
  refine e_istore rfl ?_
  refine Eg.pk [0, 1, 2, 3] [3, 2, 0, 1] rfl (by decide) ?_
  refine up_ind (p := fun w => ∀ y, tab 1000000000 (fun k => ∃ i, i < w ∧ E to i k) y → Eg X xTc 0 276 6 [(0, .ref 290), (1, .int (nI to)), (2, .int (nI y)), (3, .int (nI w))] [] (sh, I, L, R) (fun r h' => ∃ y, r = some (.int (nI y)) ∧ h' = (sh, I, L, R) ∧ tab 1000000000 (fun k => ∃ w, w < 31 ∧ E to w k) y)) (n := 31) (j := 0) (fun w hw1x ih y k1x => ?_) (fun y k1x => ?_) (Nat.zero_le _) 1000000000 (tab_no (fun k ⟨i, q, _⟩ => by omega))
  · obtain ⟨x, ex, tx⟩ := hT to hto w hw1x
    have xb := tx.1
    have yb := k1x.1
    have z := tab_iff (tab_or k1x tx) (fun k => ex_s (P := fun i => E to i k))
    refine e_iload rfl rfl ?_
    refine e_ipush rfl ?_
    refine e_cge_f rfl (nI_ge (b := 31) hw1x (by decide)) ?_
    refine e_aload rfl rfl ?_
    refine e_getR rfl hM.1 (show R 290 74 = some 350 from (hM.2 59 _ rfl).2) ?_
    refine e_ipush rfl ?_
    refine e_iload rfl rfl ?_
    refine e_imul rfl ?_
    rw [show 31 * (nI to) = nI (31 * to) from nI_times 31 to]
    refine e_iload rfl rfl ?_
    refine e_iadd rfl ?_
    rw [show (nI (31 * to)) + (nI w) = nI (31 * to + w) from nI_add _ _]
    refine e_ialv (t := 31 * to + w) (n := 372) rfl (show sh[350]? = some (20, 372) from (hM.2 59 _ rfl).1) rfl (by omega) (by decide) ex ?_
    refine e_iload rfl rfl ?_
    refine e_cge_b rfl (fun b24x => ?_) (fun b24x => ?_)
    · refine e_iload rfl rfl ?_
      refine e_istore rfl ?_
      refine e_iinc rfl rfl ?_
      refine e_goto rfl ?_
      refine Eg.pk [0, 1, 2, 3] [3, 2, 0, 1] rfl (by decide) ?_
      rw [nI_1]
      rw [if_neg (fun q => absurd ((nI_lei (by omega) (by omega)).mp b24x) (by omega))] at z
      exact ih y z
    · refine e_aload rfl rfl ?_
      refine e_getR rfl hM.1 (show R 290 74 = some 350 from (hM.2 59 _ rfl).2) ?_
      refine e_ipush rfl ?_
      refine e_iload rfl rfl ?_
      refine e_imul rfl ?_
      rw [show 31 * (nI to) = nI (31 * to) from nI_times 31 to]
      refine e_iload rfl rfl ?_
      refine e_iadd rfl ?_
      rw [show (nI (31 * to)) + (nI w) = nI (31 * to + w) from nI_add _ _]
      refine e_ialv (t := 31 * to + w) (n := 372) rfl (show sh[350]? = some (20, 372) from (hM.2 59 _ rfl).1) rfl (by omega) (by decide) ex ?_
      refine e_goto rfl ?_
      refine e_istore rfl ?_
      refine e_iinc rfl rfl ?_
      refine e_goto rfl ?_
      refine Eg.pk [0, 1, 2, 3] [3, 2, 0, 1] rfl (by decide) ?_
      rw [nI_1]
      rw [if_pos (Decidable.byContradiction (fun q => b24x ((nI_lei (by omega) (by omega)).mpr (by omega))))] at z
      exact ih x z
  · refine e_iload rfl rfl ?_
    refine e_ipush rfl ?_
    refine e_cge_t rfl (Int32.le_refl _) ?_
    refine e_iload rfl rfl ?_
    exact Eg.ret rfl (by decide) rfl ⟨y, rfl, rfl, k1x⟩
theorem ms_spreadsE (hM : MW sh R) (hw : Wf v) {E : Nat → Nat → Nat → Prop} {A F : Prop} [Decidable A] [Decidable F] {sp t jl jh : Nat} {a f x y : Int32} (ea : a = yn A) (ef : f = yn F) (el : x = wy jl) (eh : y = wy jh) (hh : VH I v t) (hT : TB 1000000000 I 350 E) (hE : ∀ c w k, E c w k → c < cn v 0 ∧ w ≤ vT v sp ∧ k ≤ 900000) (hs : sp < cn v 4) (h2x : jh ≤ 2) (hl : jl ≤ jh + 1) : Ec X 4 275 [.ref 290, .int (nI sp), .int a, .int f, .int x, .int y] (sh, I, L, R) (fun r h' => r = none ∧ ∃ J : Nat → Nat → Int32, h' = (sh, J, L, R) ∧ TB 1000000000 J 350 (fun a b q => ∃ c w k, E c w k ∧ Lv v sp 1 t A F jl jh c w k a b q) ∧ ∀ i k, i ≠ 350 → i ≠ 351 → J i k = I i k) := by
  subst ea ef el eh; exact ms_spreads hM hw hh hT hE hs h2x hl
theorem ms_sails (hM : MW sh R) (hv : mV I v) (hw : Wf v) {sp to fj ff : Nat} {z : Int32} (ez : z = yn (ff = 1)) (hs : sp < cn v 4) (hto : to < cn v 0) (hfj : fj < 3) (hff : ff < 2) : Ec X 7 277 [.ref 290, .int (nI sp), .int (nI to), .int (wy fj), .int z] (sh, I, L, R) (fun r h' => r = none ∧ ∃ J : Nat → Nat → Int32, h' = (sh, J, L, R) ∧ SO v sp to fj ff (J 290 79) (J 290 80) ∧ (∀ i k, (i ≠ 290 ∨ k ≠ 79 ∧ k ≠ 80) → (i < 350 ∨ 354 < i) → J i k = I i k)) := by
  have hb := hw.1.2
  have hvs := vS_ok hw hs
  subst ez
  refine Ec.of (Nat.le_of_ble_eq_true rfl) ?_
  refine e_ipush rfl ?_
  refine e_istore rfl ?_
  refine Eg.pk [0, 1, 2, 3, 4, 5] [5, 0, 1, 2, 3, 4] rfl (by decide) ?_
  refine up_ind (p := fun j => ∀ J : Nat → Nat → Int32, (∀ k, k < j → J 350 k = nI 1000000000) → (∀ i k, i ≠ 350 → J i k = I i k) → Eg X xTc 6 277 3 [(0, .ref 290), (1, .int (nI sp)), (2, .int (nI to)), (3, .int (wy fj)), (4, .int (yn (ff = 1))), (5, .int (nI j))] [] (sh, J, L, R) (fun r h' => r = none ∧ ∃ J : Nat → Nat → Int32, h' = (sh, J, L, R) ∧ SO v sp to fj ff (J 290 79) (J 290 80) ∧ (∀ i k, (i ≠ 290 ∨ k ≠ 79 ∧ k ≠ 80) → (i < 350 ∨ 354 < i) → J i k = I i k))) (n := 372) (j := 0) (fun j hj ih J k1x k2x => ?_) (fun J k1x k2x => ?_) (Nat.zero_le _) I (fun k q => absurd q (by omega)) (fun _ _ _ => rfl)
  · refine e_iload rfl rfl ?_
    refine e_ipush rfl ?_
    refine e_cge_f rfl (nI_ge (b := 372) hj (by decide)) ?_
    refine e_aload rfl rfl ?_
    refine e_getR rfl hM.1 (show R 290 74 = some 350 from (hM.2 59 _ rfl).2) ?_
    refine e_iload rfl rfl ?_
    refine e_ipush rfl ?_
    refine e_iasJ (t := j) (n := 372) rfl (show sh[350]? = some (20, 372) from (hM.2 59 _ rfl).1) rfl (by omega) (by decide) (fun J11x g11x f11x => ?_)
    refine e_iinc rfl rfl ?_
    refine e_goto rfl ?_
    refine Eg.pk [0, 1, 2, 3, 4, 5] [5, 0, 1, 2, 3, 4] rfl (by decide) ?_
    rw [nI_1]
    exact ih J11x (fun k q => by by_cases e : k = j; rw [e]; exact g11x; exact (f11x 350 k (Or.inr e)).trans (k1x k (by omega))) (fun i k q => (f11x i k (Or.inl q)).trans (k2x i k q))
  · have mJ : mV J v := hv.fz (fun i k q1x q2x => k2x i k (by omega))
    refine e_iload rfl rfl ?_
    refine e_ipush rfl ?_
    refine e_cge_t rfl (Int32.le_refl _) ?_
    refine e_aload rfl rfl ?_
    refine e_getR rfl hM.1 (show R 290 74 = some 350 from (hM.2 59 _ rfl).2) ?_
    refine e_ipush rfl ?_
    refine e_aload rfl rfl ?_
    refine e_getR rfl hM.1 (show R 290 13 = some 303 from (hM.2 12 _ rfl).2) ?_
    refine e_iload rfl rfl ?_
    refine e_ialv (t := sp) (n := 4) rfl (show sh[303]? = some (20, 4) from (hM.2 12 _ rfl).1) rfl (by omega) (by decide) ((mJ 13 sp (by decide)).trans hvs.1) ?_
    refine e_imul rfl ?_
    rw [show 31 * (nI (vC v sp)) = nI (31 * vC v sp) from nI_times 31 _]
    refine e_aload rfl rfl ?_
    refine e_getR rfl hM.1 (show R 290 14 = some 304 from (hM.2 13 _ rfl).2) ?_
    refine e_iload rfl rfl ?_
    refine e_ialv (t := sp) (n := 4) rfl (show sh[304]? = some (20, 4) from (hM.2 13 _ rfl).1) rfl (by omega) (by decide) ((mJ 14 sp (by decide)).trans hvs.2.2.1) ?_
    refine e_iadd rfl ?_
    rw [show (nI (31 * vC v sp)) + (nI (vW v sp)) = nI (31 * vC v sp + vW v sp) from nI_add _ _]
    refine e_ipush rfl ?_
    refine e_iasJ (t := 31 * vC v sp + vW v sp) (n := 372) rfl (show sh[350]? = some (20, 372) from (hM.2 59 _ rfl).1) rfl (by omega) (by decide) (fun J21x g21x f21x => ?_)
    refine e_aload rfl rfl ?_
    refine e_ipush rfl ?_
    refine e_putIJ rfl hM.1 (fun J22x g22x f22x => ?_)
    refine e_ipush rfl ?_
    refine e_istore rfl ?_
    refine Eg.pk [0, 1, 2, 3, 4, 5] [5, 0, 1, 2, 3, 4] rfl (by decide) ?_
    have tb0x : TB 1000000000 J22x 350 (rSt v sp fj ff 0) := (((TB.no k1x).put (c := vC v sp) (w := vW v sp) (x := 1000000000) (y := 0) (by omega) (by omega) (by decide) (k1x _ (by omega)) (tab_no (fun _ q => q)) (g21x.trans rfl) (fun k q => f21x 350 k (Or.inr q))).iff (fun c w k _ _ => ⟨fun q => q.elim False.elim id, Or.inr⟩)).fr (fun k => f22x 350 k (Or.inl (by decide)))
    have fr0x : (∀ i k, (i ≠ 290 ∨ k ≠ 79 ∧ k ≠ 80) → (i < 350 ∨ 354 < i) → J22x i k = I i k) := fun i k q1x q2x => (f22x i k (by omega)).trans ((f21x i k (by omega)).trans (k2x i k (by omega)))
    have n0x : ∀ t, 1 ≤ t → t ≤ 0 → ∀ w k, ¬ rSt v sp fj ff t to w k := fun t q1x q2x => by omega
    refine up_ind (p := fun t => ∀ J : Nat → Nat → Int32, J 290 79 = -1 → TB 1000000000 J 350 (rSt v sp fj ff t) → (∀ t', 1 ≤ t' → t' ≤ t → ∀ w k, ¬ rSt v sp fj ff t' to w k) → (∀ i k, (i ≠ 290 ∨ k ≠ 79 ∧ k ≠ 80) → (i < 350 ∨ 354 < i) → J i k = I i k) → Eg X xTc 6 277 57 [(0, .ref 290), (1, .int (nI sp)), (2, .int (nI to)), (3, .int (wy fj)), (4, .int (yn (ff = 1))), (5, .int (nI t))] [] (sh, J, L, R) (fun r h' => r = none ∧ ∃ J : Nat → Nat → Int32, h' = (sh, J, L, R) ∧ SO v sp to fj ff (J 290 79) (J 290 80) ∧ (∀ i k, (i ≠ 290 ∨ k ≠ 79 ∧ k ≠ 80) → (i < 350 ∨ 354 < i) → J i k = I i k))) (n := 300) (j := 0) (fun t ht ih J j1x j2x j3x j4x => ?_) (fun J j1x j2x j3x j4x => ?_) (Nat.zero_le _) J22x g22x tb0x n0x fr0x
    · have mK : mV J v := hv.fz (fun i k q1x q2x => j4x i k (by omega) (by omega))
      have rb : ∀ c w k, rSt v sp fj ff t c w k → c < cn v 0 ∧ w ≤ vT v sp ∧ k ≤ 900000 := fun c w k q => by have := rSt_b hw hs _ _ _ _ q; omega
      have rb2x : ∀ c w k, rSt v sp fj ff (t + 1) c w k → c < cn v 0 ∧ w ≤ vT v sp ∧ k ≤ 900000 := fun c w k q => by have := rSt_b hw hs _ _ _ _ q; omega
      by_cases t0x : t = 0
      · by_cases f1x : ff = 1
        · skip
          refine e_iload rfl rfl ?_
          refine e_ipush rfl ?_
          refine e_cge_f rfl (nI_ge (b := 300) ht (by decide)) ?_
          refine e_aload rfl rfl ?_
          refine e_getIv rfl hM.1 j1x ?_
          refine e_ipush rfl ?_
          refine e_cne_f rfl rfl ?_
          refine e_aload rfl rfl ?_
          refine e_aload rfl rfl ?_
          refine e_getR rfl hM.1 (show R 290 1 = some 291 from (hM.2 0 _ rfl).2) ?_
          refine e_ipush rfl ?_
          refine e_ialv (t := 7) (n := 14) rfl (show sh[291]? = some (20, 14) from (hM.2 0 _ rfl).1) rfl (by decide) (by decide) (mK.n hw (j := 7) (by decide)) ?_
          refine e_iload rfl rfl ?_
          refine e_iadd rfl ?_
          rw [show (nI (cn v 7)) + (nI t) = nI (cn v 7 + t) from nI_add _ _]
          refine Eg.c2 rfl (by decide) (by decide) rfl (Nat.le_of_ble_eq_true rfl) (xrcv_of rfl hM.1 rfl) ((ms_laysHeights hM mK hw (t := t)).mono (by decide)) (fun r1x h1x hq => ?_)
          obtain ⟨rfl, J1x, rfl, l1x, l2x⟩ := hq
          have t1x : TB 1000000000 J1x 350 (rSt v sp fj ff t) := j2x.fr (fun k => l2x 350 k (by decide) (by decide) (by decide))
          refine e_aload rfl rfl ?_
          refine e_iload rfl rfl ?_
          refine e_iload rfl rfl ?_
          refine e_ifgt_f rfl (by rw [t0x]; decide) ?_
          refine e_iload rfl rfl ?_
          refine e_ifne_t rfl (yn_n0.mpr f1x) ?_
          refine e_ipush rfl ?_
          refine e_iload rfl rfl ?_
          refine e_ifgt_f rfl (by rw [t0x]; decide) ?_
          refine e_iload rfl rfl ?_
          refine e_ifeq_f rfl (yn_n0.mpr f1x) ?_
          refine e_ipush rfl ?_
          refine e_goto rfl ?_
          refine e_iload rfl rfl ?_
          refine e_ifne_f rfl (by rw [t0x]; rfl) ?_
          refine e_iload rfl rfl ?_
          refine e_goto rfl ?_
          refine e_iload rfl rfl ?_
          refine e_ifne_f rfl (by rw [t0x]; rfl) ?_
          refine e_iload rfl rfl ?_
          refine e_goto rfl ?_
          refine Eg.c6 rfl (by decide) (by decide) rfl (Nat.le_of_ble_eq_true rfl) (xrcv_of rfl hM.1 rfl) ((ms_spreadsE hM hw (A := 0 < t ∨ ff = 0) (F := 0 < t ∨ ff = 1) (jl := if t = 0 then fj else 0) (jh := if t = 0 then fj else 2) ((yn_f (by omega)).symm) ((yn_t (Or.inr f1x)).symm) (by rw [if_pos t0x]) (by rw [if_pos t0x]) l1x t1x rb hs (by split <;> omega) (by split <;> omega)).mono (by decide)) (fun r1x h1x hq => ?_)
          obtain ⟨rfl, J2x, rfl, p1x, p2x⟩ := hq
          have t2x : TB 1000000000 J2x 350 (rSt v sp fj ff (t + 1)) := p1x
          have m2x : mV J2x v := l1x.1.fz (fun i k q1x q2x => p2x i k (by omega) (by omega))
          refine e_aload rfl rfl ?_
          refine e_aload rfl rfl ?_
          refine e_iload rfl rfl ?_
          refine Eg.c2 rfl (by decide) (by decide) rfl (Nat.le_of_ble_eq_true rfl) (xrcv_of rfl hM.1 rfl) ((ms_leastAt hM t2x (to := to) (by omega)).mono (by decide)) (fun r1x h1x hq => ?_)
          obtain ⟨y, rfl, rfl, ty⟩ := hq
          have yb := ty.1
          refine e_putIJ rfl hM.1 (fun J31x g31x f31x => ?_)
          refine e_aload rfl rfl ?_
          refine e_aload rfl rfl ?_
          refine e_getIv rfl hM.1 g31x ?_
          refine e_ipush rfl ?_
          refine e_cge_b rfl (fun b159x => ?_) (fun b159x => ?_)
          · refine e_ipush rfl ?_
            refine e_putIJ rfl hM.1 (fun J32x g32x f32x => ?_)
            refine e_iinc rfl rfl ?_
            refine e_goto rfl ?_
            refine Eg.pk [0, 1, 2, 3, 4, 5] [5, 0, 1, 2, 3, 4] rfl (by decide) ?_
            rw [nI_1]
            have ne : ∀ k, ¬ ∃ w, w < 31 ∧ rSt v sp fj ff (t + 1) to w k := tab_inf ty (fun q => absurd ((nI_lei (a := 1000000000) (by decide) (by omega)).mp b159x) (by omega)) (fun k ⟨w, _, q⟩ => by have := rb2x _ _ _ q; omega)
            exact ih J32x g32x (t2x.fr (fun k => (f32x 350 k (Or.inl (by decide))).trans (f31x 350 k (Or.inl (by decide))))) (fun t' q1x q2x w k r => by by_cases e : t' = t + 1; rw [e] at r; exact ne k ⟨w, by have := rb2x _ _ _ r; omega, r⟩; exact j3x t' q1x (by omega) w k r) (fun i k q1x q2x => (f32x i k (by omega)).trans ((f31x i k (by omega)).trans ((p2x i k (by omega) (by omega)).trans ((l2x i k (by omega) (by omega) (by omega)).trans (j4x i k q1x q2x)))))
          · refine e_aload rfl rfl ?_
            refine e_getR rfl hM.1 (show R 290 1 = some 291 from (hM.2 0 _ rfl).2) ?_
            refine e_ipush rfl ?_
            refine e_ialv (t := 7) (n := 14) rfl (show sh[291]? = some (20, 14) from (hM.2 0 _ rfl).1) rfl (by decide) (by decide) ((f31x 291 7 (Or.inl (by decide))).trans (m2x.n hw (j := 7) (by decide))) ?_
            refine e_iload rfl rfl ?_
            refine e_iadd rfl ?_
            rw [show (nI (cn v 7)) + (nI t) = nI (cn v 7 + t) from nI_add _ _]
            refine e_ipush rfl ?_
            refine e_iadd rfl ?_
            rw [show (nI (cn v 7 + t)) + (1 : Int32) = nI (cn v 7 + (t + 1)) from nI_1 _]
            refine e_goto rfl ?_
            refine e_putIJ rfl hM.1 (fun J33x g33x f33x => ?_)
            refine e_iinc rfl rfl ?_
            refine e_goto rfl ?_
            refine Eg.pk [0, 1, 2, 3, 4, 5] [5, 0, 1, 2, 3, 4] rfl (by decide) ?_
            rw [nI_1]
            have yl : y < 1000000000 := Decidable.byContradiction (fun q => b159x ((nI_lei (a := 1000000000) (by decide) (by omega)).mpr (by omega)))
            have so : SO v sp to fj ff (J33x 290 79) (J33x 290 80) := Or.inr ⟨t + 1, y, by omega, by omega, g33x, (f33x 290 80 (Or.inr (by decide))).trans g31x, by obtain ⟨w, _, q⟩ := ty.2.1 yl; exact ⟨w, q⟩, fun w k q => ty.2.2 k ⟨w, by have := rb2x _ _ _ q; omega, q⟩, fun t' q1x q2x => j3x t' q1x (by omega)⟩
            refine e_iload rfl rfl ?_
            refine e_ipush rfl ?_
            refine e_cge_b rfl (fun d62x => ?_) (fun d62x => ?_)
            · exact Eg.ret rfl (by decide) rfl ⟨rfl, J33x, rfl, so, (fun i k q1x q2x => (f33x i k (by omega)).trans ((f31x i k (by omega)).trans ((p2x i k (by omega) (by omega)).trans ((l2x i k (by omega) (by omega) (by omega)).trans (j4x i k q1x q2x)))))⟩
            · refine e_aload rfl rfl ?_
              refine e_getIv rfl hM.1 g33x ?_
              refine e_ipush rfl ?_
              refine e_cne_t rfl (nI_m1' (by omega)) ?_
              exact Eg.ret rfl (by decide) rfl ⟨rfl, J33x, rfl, so, (fun i k q1x q2x => (f33x i k (by omega)).trans ((f31x i k (by omega)).trans ((p2x i k (by omega) (by omega)).trans ((l2x i k (by omega) (by omega) (by omega)).trans (j4x i k q1x q2x)))))⟩
        · skip
          refine e_iload rfl rfl ?_
          refine e_ipush rfl ?_
          refine e_cge_f rfl (nI_ge (b := 300) ht (by decide)) ?_
          refine e_aload rfl rfl ?_
          refine e_getIv rfl hM.1 j1x ?_
          refine e_ipush rfl ?_
          refine e_cne_f rfl rfl ?_
          refine e_aload rfl rfl ?_
          refine e_aload rfl rfl ?_
          refine e_getR rfl hM.1 (show R 290 1 = some 291 from (hM.2 0 _ rfl).2) ?_
          refine e_ipush rfl ?_
          refine e_ialv (t := 7) (n := 14) rfl (show sh[291]? = some (20, 14) from (hM.2 0 _ rfl).1) rfl (by decide) (by decide) (mK.n hw (j := 7) (by decide)) ?_
          refine e_iload rfl rfl ?_
          refine e_iadd rfl ?_
          rw [show (nI (cn v 7)) + (nI t) = nI (cn v 7 + t) from nI_add _ _]
          refine Eg.c2 rfl (by decide) (by decide) rfl (Nat.le_of_ble_eq_true rfl) (xrcv_of rfl hM.1 rfl) ((ms_laysHeights hM mK hw (t := t)).mono (by decide)) (fun r1x h1x hq => ?_)
          obtain ⟨rfl, J1x, rfl, l1x, l2x⟩ := hq
          have t1x : TB 1000000000 J1x 350 (rSt v sp fj ff t) := j2x.fr (fun k => l2x 350 k (by decide) (by decide) (by decide))
          refine e_aload rfl rfl ?_
          refine e_iload rfl rfl ?_
          refine e_iload rfl rfl ?_
          refine e_ifgt_f rfl (by rw [t0x]; decide) ?_
          refine e_iload rfl rfl ?_
          refine e_ifne_f rfl (yn_0.mpr f1x) ?_
          refine e_ipush rfl ?_
          refine e_goto rfl ?_
          refine e_iload rfl rfl ?_
          refine e_ifgt_f rfl (by rw [t0x]; decide) ?_
          refine e_iload rfl rfl ?_
          refine e_ifeq_t rfl (yn_0.mpr f1x) ?_
          refine e_ipush rfl ?_
          refine e_iload rfl rfl ?_
          refine e_ifne_f rfl (by rw [t0x]; rfl) ?_
          refine e_iload rfl rfl ?_
          refine e_goto rfl ?_
          refine e_iload rfl rfl ?_
          refine e_ifne_f rfl (by rw [t0x]; rfl) ?_
          refine e_iload rfl rfl ?_
          refine e_goto rfl ?_
          refine Eg.c6 rfl (by decide) (by decide) rfl (Nat.le_of_ble_eq_true rfl) (xrcv_of rfl hM.1 rfl) ((ms_spreadsE hM hw (A := 0 < t ∨ ff = 0) (F := 0 < t ∨ ff = 1) (jl := if t = 0 then fj else 0) (jh := if t = 0 then fj else 2) ((yn_t (Or.inr (by omega))).symm) ((yn_f (by omega)).symm) (by rw [if_pos t0x]) (by rw [if_pos t0x]) l1x t1x rb hs (by split <;> omega) (by split <;> omega)).mono (by decide)) (fun r1x h1x hq => ?_)
          obtain ⟨rfl, J2x, rfl, p1x, p2x⟩ := hq
          have t2x : TB 1000000000 J2x 350 (rSt v sp fj ff (t + 1)) := p1x
          have m2x : mV J2x v := l1x.1.fz (fun i k q1x q2x => p2x i k (by omega) (by omega))
          refine e_aload rfl rfl ?_
          refine e_aload rfl rfl ?_
          refine e_iload rfl rfl ?_
          refine Eg.c2 rfl (by decide) (by decide) rfl (Nat.le_of_ble_eq_true rfl) (xrcv_of rfl hM.1 rfl) ((ms_leastAt hM t2x (to := to) (by omega)).mono (by decide)) (fun r1x h1x hq => ?_)
          obtain ⟨y, rfl, rfl, ty⟩ := hq
          have yb := ty.1
          refine e_putIJ rfl hM.1 (fun J31x g31x f31x => ?_)
          refine e_aload rfl rfl ?_
          refine e_aload rfl rfl ?_
          refine e_getIv rfl hM.1 g31x ?_
          refine e_ipush rfl ?_
          refine e_cge_b rfl (fun b159x => ?_) (fun b159x => ?_)
          · refine e_ipush rfl ?_
            refine e_putIJ rfl hM.1 (fun J32x g32x f32x => ?_)
            refine e_iinc rfl rfl ?_
            refine e_goto rfl ?_
            refine Eg.pk [0, 1, 2, 3, 4, 5] [5, 0, 1, 2, 3, 4] rfl (by decide) ?_
            rw [nI_1]
            have ne : ∀ k, ¬ ∃ w, w < 31 ∧ rSt v sp fj ff (t + 1) to w k := tab_inf ty (fun q => absurd ((nI_lei (a := 1000000000) (by decide) (by omega)).mp b159x) (by omega)) (fun k ⟨w, _, q⟩ => by have := rb2x _ _ _ q; omega)
            exact ih J32x g32x (t2x.fr (fun k => (f32x 350 k (Or.inl (by decide))).trans (f31x 350 k (Or.inl (by decide))))) (fun t' q1x q2x w k r => by by_cases e : t' = t + 1; rw [e] at r; exact ne k ⟨w, by have := rb2x _ _ _ r; omega, r⟩; exact j3x t' q1x (by omega) w k r) (fun i k q1x q2x => (f32x i k (by omega)).trans ((f31x i k (by omega)).trans ((p2x i k (by omega) (by omega)).trans ((l2x i k (by omega) (by omega) (by omega)).trans (j4x i k q1x q2x)))))
          · refine e_aload rfl rfl ?_
            refine e_getR rfl hM.1 (show R 290 1 = some 291 from (hM.2 0 _ rfl).2) ?_
            refine e_ipush rfl ?_
            refine e_ialv (t := 7) (n := 14) rfl (show sh[291]? = some (20, 14) from (hM.2 0 _ rfl).1) rfl (by decide) (by decide) ((f31x 291 7 (Or.inl (by decide))).trans (m2x.n hw (j := 7) (by decide))) ?_
            refine e_iload rfl rfl ?_
            refine e_iadd rfl ?_
            rw [show (nI (cn v 7)) + (nI t) = nI (cn v 7 + t) from nI_add _ _]
            refine e_ipush rfl ?_
            refine e_iadd rfl ?_
            rw [show (nI (cn v 7 + t)) + (1 : Int32) = nI (cn v 7 + (t + 1)) from nI_1 _]
            refine e_goto rfl ?_
            refine e_putIJ rfl hM.1 (fun J33x g33x f33x => ?_)
            refine e_iinc rfl rfl ?_
            refine e_goto rfl ?_
            refine Eg.pk [0, 1, 2, 3, 4, 5] [5, 0, 1, 2, 3, 4] rfl (by decide) ?_
            rw [nI_1]
            have yl : y < 1000000000 := Decidable.byContradiction (fun q => b159x ((nI_lei (a := 1000000000) (by decide) (by omega)).mpr (by omega)))
            have so : SO v sp to fj ff (J33x 290 79) (J33x 290 80) := Or.inr ⟨t + 1, y, by omega, by omega, g33x, (f33x 290 80 (Or.inr (by decide))).trans g31x, by obtain ⟨w, _, q⟩ := ty.2.1 yl; exact ⟨w, q⟩, fun w k q => ty.2.2 k ⟨w, by have := rb2x _ _ _ q; omega, q⟩, fun t' q1x q2x => j3x t' q1x (by omega)⟩
            refine e_iload rfl rfl ?_
            refine e_ipush rfl ?_
            refine e_cge_b rfl (fun d62x => ?_) (fun d62x => ?_)
            · exact Eg.ret rfl (by decide) rfl ⟨rfl, J33x, rfl, so, (fun i k q1x q2x => (f33x i k (by omega)).trans ((f31x i k (by omega)).trans ((p2x i k (by omega) (by omega)).trans ((l2x i k (by omega) (by omega) (by omega)).trans (j4x i k q1x q2x)))))⟩
            · refine e_aload rfl rfl ?_
              refine e_getIv rfl hM.1 g33x ?_
              refine e_ipush rfl ?_
              refine e_cne_t rfl (nI_m1' (by omega)) ?_
              exact Eg.ret rfl (by decide) rfl ⟨rfl, J33x, rfl, so, (fun i k q1x q2x => (f33x i k (by omega)).trans ((f31x i k (by omega)).trans ((p2x i k (by omega) (by omega)).trans ((l2x i k (by omega) (by omega) (by omega)).trans (j4x i k q1x q2x)))))⟩
      · skip
        refine e_iload rfl rfl ?_
        refine e_ipush rfl ?_
        refine e_cge_f rfl (nI_ge (b := 300) ht (by decide)) ?_
        refine e_aload rfl rfl ?_
        refine e_getIv rfl hM.1 j1x ?_
        refine e_ipush rfl ?_
        refine e_cne_f rfl rfl ?_
        refine e_aload rfl rfl ?_
        refine e_aload rfl rfl ?_
        refine e_getR rfl hM.1 (show R 290 1 = some 291 from (hM.2 0 _ rfl).2) ?_
        refine e_ipush rfl ?_
        refine e_ialv (t := 7) (n := 14) rfl (show sh[291]? = some (20, 14) from (hM.2 0 _ rfl).1) rfl (by decide) (by decide) (mK.n hw (j := 7) (by decide)) ?_
        refine e_iload rfl rfl ?_
        refine e_iadd rfl ?_
        rw [show (nI (cn v 7)) + (nI t) = nI (cn v 7 + t) from nI_add _ _]
        refine Eg.c2 rfl (by decide) (by decide) rfl (Nat.le_of_ble_eq_true rfl) (xrcv_of rfl hM.1 rfl) ((ms_laysHeights hM mK hw (t := t)).mono (by decide)) (fun r1x h1x hq => ?_)
        obtain ⟨rfl, J1x, rfl, l1x, l2x⟩ := hq
        have t1x : TB 1000000000 J1x 350 (rSt v sp fj ff t) := j2x.fr (fun k => l2x 350 k (by decide) (by decide) (by decide))
        refine e_aload rfl rfl ?_
        refine e_iload rfl rfl ?_
        refine e_iload rfl rfl ?_
        refine e_ifgt_t rfl (Int32.not_le.mp (fun q => t0x ((nI_le0 (by omega)).mp q))) ?_
        refine e_ipush rfl ?_
        refine e_goto rfl ?_
        refine e_iload rfl rfl ?_
        refine e_ifgt_t rfl (Int32.not_le.mp (fun q => t0x ((nI_le0 (by omega)).mp q))) ?_
        refine e_ipush rfl ?_
        refine e_goto rfl ?_
        refine e_iload rfl rfl ?_
        refine e_ifne_t rfl (fun q => t0x ((nI_ij (b := 0) (by omega) (by decide)).mp q)) ?_
        refine e_ipush rfl ?_
        refine e_iload rfl rfl ?_
        refine e_ifne_t rfl (fun q => t0x ((nI_ij (b := 0) (by omega) (by decide)).mp q)) ?_
        refine e_ipush rfl ?_
        refine Eg.c6 rfl (by decide) (by decide) rfl (Nat.le_of_ble_eq_true rfl) (xrcv_of rfl hM.1 rfl) ((ms_spreadsE hM hw (A := 0 < t ∨ ff = 0) (F := 0 < t ∨ ff = 1) (jl := if t = 0 then fj else 0) (jh := if t = 0 then fj else 2) ((yn_t (Or.inl (by omega))).symm) ((yn_t (Or.inl (by omega))).symm) (by rw [if_neg t0x]; decide) (by rw [if_neg t0x]; decide) l1x t1x rb hs (by split <;> omega) (by split <;> omega)).mono (by decide)) (fun r1x h1x hq => ?_)
        obtain ⟨rfl, J2x, rfl, p1x, p2x⟩ := hq
        have t2x : TB 1000000000 J2x 350 (rSt v sp fj ff (t + 1)) := p1x
        have m2x : mV J2x v := l1x.1.fz (fun i k q1x q2x => p2x i k (by omega) (by omega))
        refine e_aload rfl rfl ?_
        refine e_aload rfl rfl ?_
        refine e_iload rfl rfl ?_
        refine Eg.c2 rfl (by decide) (by decide) rfl (Nat.le_of_ble_eq_true rfl) (xrcv_of rfl hM.1 rfl) ((ms_leastAt hM t2x (to := to) (by omega)).mono (by decide)) (fun r1x h1x hq => ?_)
        obtain ⟨y, rfl, rfl, ty⟩ := hq
        have yb := ty.1
        refine e_putIJ rfl hM.1 (fun J31x g31x f31x => ?_)
        refine e_aload rfl rfl ?_
        refine e_aload rfl rfl ?_
        refine e_getIv rfl hM.1 g31x ?_
        refine e_ipush rfl ?_
        refine e_cge_b rfl (fun b159x => ?_) (fun b159x => ?_)
        · refine e_ipush rfl ?_
          refine e_putIJ rfl hM.1 (fun J32x g32x f32x => ?_)
          refine e_iinc rfl rfl ?_
          refine e_goto rfl ?_
          refine Eg.pk [0, 1, 2, 3, 4, 5] [5, 0, 1, 2, 3, 4] rfl (by decide) ?_
          rw [nI_1]
          have ne : ∀ k, ¬ ∃ w, w < 31 ∧ rSt v sp fj ff (t + 1) to w k := tab_inf ty (fun q => absurd ((nI_lei (a := 1000000000) (by decide) (by omega)).mp b159x) (by omega)) (fun k ⟨w, _, q⟩ => by have := rb2x _ _ _ q; omega)
          exact ih J32x g32x (t2x.fr (fun k => (f32x 350 k (Or.inl (by decide))).trans (f31x 350 k (Or.inl (by decide))))) (fun t' q1x q2x w k r => by by_cases e : t' = t + 1; rw [e] at r; exact ne k ⟨w, by have := rb2x _ _ _ r; omega, r⟩; exact j3x t' q1x (by omega) w k r) (fun i k q1x q2x => (f32x i k (by omega)).trans ((f31x i k (by omega)).trans ((p2x i k (by omega) (by omega)).trans ((l2x i k (by omega) (by omega) (by omega)).trans (j4x i k q1x q2x)))))
        · refine e_aload rfl rfl ?_
          refine e_getR rfl hM.1 (show R 290 1 = some 291 from (hM.2 0 _ rfl).2) ?_
          refine e_ipush rfl ?_
          refine e_ialv (t := 7) (n := 14) rfl (show sh[291]? = some (20, 14) from (hM.2 0 _ rfl).1) rfl (by decide) (by decide) ((f31x 291 7 (Or.inl (by decide))).trans (m2x.n hw (j := 7) (by decide))) ?_
          refine e_iload rfl rfl ?_
          refine e_iadd rfl ?_
          rw [show (nI (cn v 7)) + (nI t) = nI (cn v 7 + t) from nI_add _ _]
          refine e_ipush rfl ?_
          refine e_iadd rfl ?_
          rw [show (nI (cn v 7 + t)) + (1 : Int32) = nI (cn v 7 + (t + 1)) from nI_1 _]
          refine e_goto rfl ?_
          refine e_putIJ rfl hM.1 (fun J33x g33x f33x => ?_)
          refine e_iinc rfl rfl ?_
          refine e_goto rfl ?_
          refine Eg.pk [0, 1, 2, 3, 4, 5] [5, 0, 1, 2, 3, 4] rfl (by decide) ?_
          rw [nI_1]
          have yl : y < 1000000000 := Decidable.byContradiction (fun q => b159x ((nI_lei (a := 1000000000) (by decide) (by omega)).mpr (by omega)))
          have so : SO v sp to fj ff (J33x 290 79) (J33x 290 80) := Or.inr ⟨t + 1, y, by omega, by omega, g33x, (f33x 290 80 (Or.inr (by decide))).trans g31x, by obtain ⟨w, _, q⟩ := ty.2.1 yl; exact ⟨w, q⟩, fun w k q => ty.2.2 k ⟨w, by have := rb2x _ _ _ q; omega, q⟩, fun t' q1x q2x => j3x t' q1x (by omega)⟩
          refine e_iload rfl rfl ?_
          refine e_ipush rfl ?_
          refine e_cge_b rfl (fun d62x => ?_) (fun d62x => ?_)
          · exact Eg.ret rfl (by decide) rfl ⟨rfl, J33x, rfl, so, (fun i k q1x q2x => (f33x i k (by omega)).trans ((f31x i k (by omega)).trans ((p2x i k (by omega) (by omega)).trans ((l2x i k (by omega) (by omega) (by omega)).trans (j4x i k q1x q2x)))))⟩
          · refine e_aload rfl rfl ?_
            refine e_getIv rfl hM.1 g33x ?_
            refine e_ipush rfl ?_
            refine e_cne_t rfl (nI_m1' (by omega)) ?_
            exact Eg.ret rfl (by decide) rfl ⟨rfl, J33x, rfl, so, (fun i k q1x q2x => (f33x i k (by omega)).trans ((f31x i k (by omega)).trans ((p2x i k (by omega) (by omega)).trans ((l2x i k (by omega) (by omega) (by omega)).trans (j4x i k q1x q2x)))))⟩
    · refine e_iload rfl rfl ?_
      refine e_ipush rfl ?_
      refine e_cge_t rfl (Int32.le_refl _) ?_
      exact Eg.ret rfl (by decide) rfl ⟨rfl, J, rfl, Or.inl ⟨j1x, j3x⟩, j4x⟩
theorem ms_findsVoyage (hM : MW sh R) (hv : mV I v) (hw : Wf v) {sp to : Nat} (hs : sp < cn v 4) (hto : to < cn v 0) : Ec X 8 278 [.ref 290, .int (nI sp), .int (nI to)] (sh, I, L, R) (fun r h' => r = none ∧ ∃ J : Nat → Nat → Int32, h' = (sh, J, L, R) ∧ BV v sp to 6 (J 355) ∧ (∀ i k, (i ≠ 290 ∨ k ≠ 79 ∧ k ≠ 80) → (i < 350 ∨ 355 < i) → J i k = I i k)) := by
  have hb := hw.1.2
  refine Ec.of (Nat.le_of_ble_eq_true rfl) ?_
  refine e_aload rfl rfl ?_
  refine e_getR rfl hM.1 (show R 290 81 = some 355 from (hM.2 64 _ rfl).2) ?_
  refine e_ipush rfl ?_
  refine e_ipush rfl ?_
  refine e_iasJ (t := 0) (n := 4) rfl (show sh[355]? = some (20, 4) from (hM.2 64 _ rfl).1) rfl (by decide) (by decide) (fun J1x g1x f1x => ?_)
  refine e_ipush rfl ?_
  refine e_istore rfl ?_
  refine Eg.pk [0, 1, 2, 3] [3, 0, 1, 2] rfl (by decide) ?_
  refine up_ind (p := fun fj => ∀ J : Nat → Nat → Int32, BV v sp to (2 * fj) (J 355) → (∀ i k, (i ≠ 290 ∨ k ≠ 79 ∧ k ≠ 80) → (i < 350 ∨ 355 < i) → J i k = I i k) → Eg X xTc 7 278 9 [(0, .ref 290), (1, .int (nI sp)), (2, .int (nI to)), (3, .int (wy fj))] [] (sh, J, L, R) (fun r h' => r = none ∧ ∃ J : Nat → Nat → Int32, h' = (sh, J, L, R) ∧ BV v sp to 6 (J 355) ∧ (∀ i k, (i ≠ 290 ∨ k ≠ 79 ∧ k ≠ 80) → (i < 350 ∨ 355 < i) → J i k = I i k))) (n := 3) (j := 0) (fun fj hj ih J k1x k2x => ?_) (fun J k1x k2x => ?_) (Nat.zero_le _) J1x (BV_0 g1x) (fun i k q1x q2x => f1x i k (by omega))
  · refine e_iload rfl rfl ?_
    refine e_ipush rfl ?_
    refine e_cgt_f rfl (fun q => absurd ((wy_lt (a := 2) (by decide) (by omega)).mp q) (by omega)) ?_
    refine e_ipush rfl ?_
    refine e_istore rfl ?_
    refine Eg.pk [0, 1, 2, 3, 4] [4, 0, 1, 2, 3] rfl (by decide) ?_
    refine up_ind (p := fun f => ∀ J : Nat → Nat → Int32, BV v sp to (2 * fj + f) (J 355) → (∀ i k, (i ≠ 290 ∨ k ≠ 79 ∧ k ≠ 80) → (i < 350 ∨ 355 < i) → J i k = I i k) → Eg X xTc 7 278 17 [(0, .ref 290), (1, .int (nI sp)), (2, .int (nI to)), (3, .int (wy fj)), (4, .int (nI f))] [] (sh, J, L, R) (fun r h' => r = none ∧ ∃ J : Nat → Nat → Int32, h' = (sh, J, L, R) ∧ BV v sp to 6 (J 355) ∧ (∀ i k, (i ≠ 290 ∨ k ≠ 79 ∧ k ≠ 80) → (i < 350 ∨ 355 < i) → J i k = I i k))) (n := 2) (j := 0) (fun f hf iw J k1x k2x => ?_) (fun J k1x k2x => ?_) (Nat.zero_le _) J k1x k2x
    · have mJ : mV J v := hv.fz (fun i k q1x q2x => k2x i k (by omega) (by omega))
      refine e_iload rfl rfl ?_
      refine e_ipush rfl ?_
      refine e_cge_f rfl (nI_ge (b := 2) hf (by decide)) ?_
      refine e_aload rfl rfl ?_
      refine e_iload rfl rfl ?_
      refine e_iload rfl rfl ?_
      refine e_iload rfl rfl ?_
      refine e_iload rfl rfl ?_
      refine e_ipush rfl ?_
      refine e_cne_b rfl (fun b30x => ?_) (fun b30x => ?_)
      · refine e_ipush rfl ?_
        refine Eg.c5 rfl (by decide) (by decide) rfl (Nat.le_of_ble_eq_true rfl) (xrcv_of rfl hM.1 rfl) ((ms_sails hM mJ hw (fj := fj) (ff := f) ((yn_f (fun q => b30x (by rw [q]; rfl))).symm) hs hto hj hf).mono (by decide)) (fun r1x h1x hq => ?_)
        obtain ⟨rfl, J2x, rfl, s1x, s2x⟩ := hq
        have so : SO v sp to ((2 * fj + f) / 2) ((2 * fj + f) % 2) (J2x 290 79) (J2x 290 80) := by rw [show (2 * fj + f) / 2 = fj by omega, show (2 * fj + f) % 2 = f by omega]; exact s1x
        have bv : BV v sp to (2 * fj + f) (J2x 355) := by rw [show J2x 355 = J 355 from funext (fun k => s2x 355 k (by omega) (by omega))]; exact k1x
        have fr2x : (∀ i k, (i ≠ 290 ∨ k ≠ 79 ∧ k ≠ 80) → (i < 350 ∨ 355 < i) → J2x i k = I i k) := fun i k q1x q2x => (s2x i k q1x (by omega)).trans (k2x i k q1x q2x)
        refine e_aload rfl rfl ?_
        refine e_getIv rfl hM.1 rfl ?_
        refine e_ipush rfl ?_
        refine e_ceq_b rfl (fun b46x => ?_) (fun b46x => ?_)
        · refine e_ipush rfl ?_
          refine e_istore rfl ?_
          refine e_iload rfl rfl ?_
          refine e_ifeq_t rfl rfl ?_
          refine e_iinc rfl rfl ?_
          refine e_goto rfl ?_
          refine Eg.pk [0, 1, 2, 3, 4] [4, 5, 0, 1, 2, 3] rfl (by decide) ?_
          rw [nI_1]
          exact iw J2x (BV_n hw hs bv so (fun q => q.1 b46x)) fr2x
        · refine e_aload rfl rfl ?_
          refine e_getR rfl hM.1 (show R 290 81 = some 355 from (hM.2 64 _ rfl).2) ?_
          refine e_ipush rfl ?_
          refine e_ialv (t := 0) (n := 4) rfl (show sh[355]? = some (20, 4) from (hM.2 64 _ rfl).1) rfl (by decide) (by decide) rfl ?_
          refine e_ipush rfl ?_
          refine e_ceq_b rfl (fun b56x => ?_) (fun b56x => ?_)
          · refine e_ipush rfl ?_
            refine e_goto rfl ?_
            refine e_istore rfl ?_
            refine e_iload rfl rfl ?_
            refine e_ifeq_f rfl (by decide) ?_
            refine e_aload rfl rfl ?_
            refine e_getR rfl hM.1 (show R 290 81 = some 355 from (hM.2 64 _ rfl).2) ?_
            refine e_ipush rfl ?_
            refine e_aload rfl rfl ?_
            refine e_getIv rfl hM.1 rfl ?_
            refine e_iasJ (t := 0) (n := 4) rfl (show sh[355]? = some (20, 4) from (hM.2 64 _ rfl).1) rfl (by decide) (by decide) (fun J41x g41x f41x => ?_)
            refine e_aload rfl rfl ?_
            refine e_getR rfl hM.1 (show R 290 81 = some 355 from (hM.2 64 _ rfl).2) ?_
            refine e_ipush rfl ?_
            refine e_aload rfl rfl ?_
            refine e_getIv rfl hM.1 ((f41x 290 80 (Or.inl (by omega))).trans rfl) ?_
            refine e_iasJ (t := 1) (n := 4) rfl (show sh[355]? = some (20, 4) from (hM.2 64 _ rfl).1) rfl (by decide) (by decide) (fun J42x g42x f42x => ?_)
            refine e_aload rfl rfl ?_
            refine e_getR rfl hM.1 (show R 290 81 = some 355 from (hM.2 64 _ rfl).2) ?_
            refine e_ipush rfl ?_
            refine e_iload rfl rfl ?_
            refine e_iasJ (t := 2) (n := 4) rfl (show sh[355]? = some (20, 4) from (hM.2 64 _ rfl).1) rfl (by decide) (by decide) (fun J43x g43x f43x => ?_)
            refine e_aload rfl rfl ?_
            refine e_getR rfl hM.1 (show R 290 81 = some 355 from (hM.2 64 _ rfl).2) ?_
            refine e_ipush rfl ?_
            refine e_iload rfl rfl ?_
            refine e_iasJ (t := 3) (n := 4) rfl (show sh[355]? = some (20, 4) from (hM.2 64 _ rfl).1) rfl (by decide) (by decide) (fun J44x g44x f44x => ?_)
            refine e_iinc rfl rfl ?_
            refine e_goto rfl ?_
            refine Eg.pk [0, 1, 2, 3, 4] [4, 5, 0, 1, 2, 3] rfl (by decide) ?_
            rw [nI_1]
            exact iw J44x (BV_y (n := 2 * fj + f) hw hs bv so ⟨b46x, Or.inl b56x⟩ ((f44x 355 0 (Or.inr (by decide))).trans ((f43x 355 0 (Or.inr (by decide))).trans ((f42x 355 0 (Or.inr (by decide))).trans g41x))) ((f44x 355 1 (Or.inr (by decide))).trans ((f43x 355 1 (Or.inr (by decide))).trans g42x)) (((f44x 355 2 (Or.inr (by decide))).trans g43x).trans (congrArg wy (show fj = (2 * fj + f) / 2 by omega))) (g44x.trans (congrArg nI (show f = (2 * fj + f) % 2 by omega)))) (fun i k q1x q2x => (f44x i k (by omega)).trans ((f43x i k (by omega)).trans ((f42x i k (by omega)).trans ((f41x i k (by omega)).trans (fr2x i k q1x q2x)))))
          · refine e_aload rfl rfl ?_
            refine e_getIv rfl hM.1 rfl ?_
            refine e_aload rfl rfl ?_
            refine e_getR rfl hM.1 (show R 290 81 = some 355 from (hM.2 64 _ rfl).2) ?_
            refine e_ipush rfl ?_
            refine e_ialv (t := 0) (n := 4) rfl (show sh[355]? = some (20, 4) from (hM.2 64 _ rfl).1) rfl (by decide) (by decide) rfl ?_
            refine e_clt_b rfl (fun b69x => ?_) (fun b69x => ?_)
            · refine e_ipush rfl ?_
              refine e_goto rfl ?_
              refine e_istore rfl ?_
              refine e_iload rfl rfl ?_
              refine e_ifeq_f rfl (by decide) ?_
              refine e_aload rfl rfl ?_
              refine e_getR rfl hM.1 (show R 290 81 = some 355 from (hM.2 64 _ rfl).2) ?_
              refine e_ipush rfl ?_
              refine e_aload rfl rfl ?_
              refine e_getIv rfl hM.1 rfl ?_
              refine e_iasJ (t := 0) (n := 4) rfl (show sh[355]? = some (20, 4) from (hM.2 64 _ rfl).1) rfl (by decide) (by decide) (fun J45x g45x f45x => ?_)
              refine e_aload rfl rfl ?_
              refine e_getR rfl hM.1 (show R 290 81 = some 355 from (hM.2 64 _ rfl).2) ?_
              refine e_ipush rfl ?_
              refine e_aload rfl rfl ?_
              refine e_getIv rfl hM.1 ((f45x 290 80 (Or.inl (by omega))).trans rfl) ?_
              refine e_iasJ (t := 1) (n := 4) rfl (show sh[355]? = some (20, 4) from (hM.2 64 _ rfl).1) rfl (by decide) (by decide) (fun J46x g46x f46x => ?_)
              refine e_aload rfl rfl ?_
              refine e_getR rfl hM.1 (show R 290 81 = some 355 from (hM.2 64 _ rfl).2) ?_
              refine e_ipush rfl ?_
              refine e_iload rfl rfl ?_
              refine e_iasJ (t := 2) (n := 4) rfl (show sh[355]? = some (20, 4) from (hM.2 64 _ rfl).1) rfl (by decide) (by decide) (fun J47x g47x f47x => ?_)
              refine e_aload rfl rfl ?_
              refine e_getR rfl hM.1 (show R 290 81 = some 355 from (hM.2 64 _ rfl).2) ?_
              refine e_ipush rfl ?_
              refine e_iload rfl rfl ?_
              refine e_iasJ (t := 3) (n := 4) rfl (show sh[355]? = some (20, 4) from (hM.2 64 _ rfl).1) rfl (by decide) (by decide) (fun J48x g48x f48x => ?_)
              refine e_iinc rfl rfl ?_
              refine e_goto rfl ?_
              refine Eg.pk [0, 1, 2, 3, 4] [4, 5, 0, 1, 2, 3] rfl (by decide) ?_
              rw [nI_1]
              exact iw J48x (BV_y (n := 2 * fj + f) hw hs bv so ⟨b46x, Or.inr (Or.inl b69x)⟩ ((f48x 355 0 (Or.inr (by decide))).trans ((f47x 355 0 (Or.inr (by decide))).trans ((f46x 355 0 (Or.inr (by decide))).trans g45x))) ((f48x 355 1 (Or.inr (by decide))).trans ((f47x 355 1 (Or.inr (by decide))).trans g46x)) (((f48x 355 2 (Or.inr (by decide))).trans g47x).trans (congrArg wy (show fj = (2 * fj + f) / 2 by omega))) (g48x.trans (congrArg nI (show f = (2 * fj + f) % 2 by omega)))) (fun i k q1x q2x => (f48x i k (by omega)).trans ((f47x i k (by omega)).trans ((f46x i k (by omega)).trans ((f45x i k (by omega)).trans (fr2x i k q1x q2x)))))
            · refine e_aload rfl rfl ?_
              refine e_getIv rfl hM.1 rfl ?_
              refine e_aload rfl rfl ?_
              refine e_getR rfl hM.1 (show R 290 81 = some 355 from (hM.2 64 _ rfl).2) ?_
              refine e_ipush rfl ?_
              refine e_ialv (t := 0) (n := 4) rfl (show sh[355]? = some (20, 4) from (hM.2 64 _ rfl).1) rfl (by decide) (by decide) rfl ?_
              refine e_cne_b rfl (fun b82x => ?_) (fun b82x => ?_)
              · refine e_ipush rfl ?_
                refine e_istore rfl ?_
                refine e_iload rfl rfl ?_
                refine e_ifeq_t rfl rfl ?_
                refine e_iinc rfl rfl ?_
                refine e_goto rfl ?_
                refine Eg.pk [0, 1, 2, 3, 4] [4, 5, 0, 1, 2, 3] rfl (by decide) ?_
                rw [nI_1]
                exact iw J2x (BV_n hw hs bv so (fun q => by rcases q.2 with r | r | r; exact b56x r; exact b69x r; exact b82x r.1)) fr2x
              · refine e_aload rfl rfl ?_
                refine e_getIv rfl hM.1 rfl ?_
                refine e_aload rfl rfl ?_
                refine e_getR rfl hM.1 (show R 290 81 = some 355 from (hM.2 64 _ rfl).2) ?_
                refine e_ipush rfl ?_
                refine e_ialv (t := 1) (n := 4) rfl (show sh[355]? = some (20, 4) from (hM.2 64 _ rfl).1) rfl (by decide) (by decide) rfl ?_
                refine e_cge_b rfl (fun b95x => ?_) (fun b95x => ?_)
                · refine e_ipush rfl ?_
                  refine e_istore rfl ?_
                  refine e_iload rfl rfl ?_
                  refine e_ifeq_t rfl rfl ?_
                  refine e_iinc rfl rfl ?_
                  refine e_goto rfl ?_
                  refine Eg.pk [0, 1, 2, 3, 4] [4, 5, 0, 1, 2, 3] rfl (by decide) ?_
                  rw [nI_1]
                  exact iw J2x (BV_n hw hs bv so (fun q => by rcases q.2 with r | r | r; exact b56x r; exact b69x r; exact Int32.not_lt.mpr b95x r.2)) fr2x
                · refine e_ipush rfl ?_
                  refine e_goto rfl ?_
                  refine e_istore rfl ?_
                  refine e_iload rfl rfl ?_
                  refine e_ifeq_f rfl (by decide) ?_
                  refine e_aload rfl rfl ?_
                  refine e_getR rfl hM.1 (show R 290 81 = some 355 from (hM.2 64 _ rfl).2) ?_
                  refine e_ipush rfl ?_
                  refine e_aload rfl rfl ?_
                  refine e_getIv rfl hM.1 rfl ?_
                  refine e_iasJ (t := 0) (n := 4) rfl (show sh[355]? = some (20, 4) from (hM.2 64 _ rfl).1) rfl (by decide) (by decide) (fun J49x g49x f49x => ?_)
                  refine e_aload rfl rfl ?_
                  refine e_getR rfl hM.1 (show R 290 81 = some 355 from (hM.2 64 _ rfl).2) ?_
                  refine e_ipush rfl ?_
                  refine e_aload rfl rfl ?_
                  refine e_getIv rfl hM.1 ((f49x 290 80 (Or.inl (by omega))).trans rfl) ?_
                  refine e_iasJ (t := 1) (n := 4) rfl (show sh[355]? = some (20, 4) from (hM.2 64 _ rfl).1) rfl (by decide) (by decide) (fun J50x g50x f50x => ?_)
                  refine e_aload rfl rfl ?_
                  refine e_getR rfl hM.1 (show R 290 81 = some 355 from (hM.2 64 _ rfl).2) ?_
                  refine e_ipush rfl ?_
                  refine e_iload rfl rfl ?_
                  refine e_iasJ (t := 2) (n := 4) rfl (show sh[355]? = some (20, 4) from (hM.2 64 _ rfl).1) rfl (by decide) (by decide) (fun J51x g51x f51x => ?_)
                  refine e_aload rfl rfl ?_
                  refine e_getR rfl hM.1 (show R 290 81 = some 355 from (hM.2 64 _ rfl).2) ?_
                  refine e_ipush rfl ?_
                  refine e_iload rfl rfl ?_
                  refine e_iasJ (t := 3) (n := 4) rfl (show sh[355]? = some (20, 4) from (hM.2 64 _ rfl).1) rfl (by decide) (by decide) (fun J52x g52x f52x => ?_)
                  refine e_iinc rfl rfl ?_
                  refine e_goto rfl ?_
                  refine Eg.pk [0, 1, 2, 3, 4] [4, 5, 0, 1, 2, 3] rfl (by decide) ?_
                  rw [nI_1]
                  exact iw J52x (BV_y (n := 2 * fj + f) hw hs bv so ⟨b46x, Or.inr (Or.inr ⟨b82x, Int32.not_le.mp b95x⟩)⟩ ((f52x 355 0 (Or.inr (by decide))).trans ((f51x 355 0 (Or.inr (by decide))).trans ((f50x 355 0 (Or.inr (by decide))).trans g49x))) ((f52x 355 1 (Or.inr (by decide))).trans ((f51x 355 1 (Or.inr (by decide))).trans g50x)) (((f52x 355 2 (Or.inr (by decide))).trans g51x).trans (congrArg wy (show fj = (2 * fj + f) / 2 by omega))) (g52x.trans (congrArg nI (show f = (2 * fj + f) % 2 by omega)))) (fun i k q1x q2x => (f52x i k (by omega)).trans ((f51x i k (by omega)).trans ((f50x i k (by omega)).trans ((f49x i k (by omega)).trans (fr2x i k q1x q2x)))))
      · refine e_ipush rfl ?_
        refine e_goto rfl ?_
        refine Eg.c5 rfl (by decide) (by decide) rfl (Nat.le_of_ble_eq_true rfl) (xrcv_of rfl hM.1 rfl) ((ms_sails hM mJ hw (fj := fj) (ff := f) ((yn_t ((nI_ij (b := 1) (by omega) (by decide)).mp b30x)).symm) hs hto hj hf).mono (by decide)) (fun r1x h1x hq => ?_)
        obtain ⟨rfl, J2x, rfl, s1x, s2x⟩ := hq
        have so : SO v sp to ((2 * fj + f) / 2) ((2 * fj + f) % 2) (J2x 290 79) (J2x 290 80) := by rw [show (2 * fj + f) / 2 = fj by omega, show (2 * fj + f) % 2 = f by omega]; exact s1x
        have bv : BV v sp to (2 * fj + f) (J2x 355) := by rw [show J2x 355 = J 355 from funext (fun k => s2x 355 k (by omega) (by omega))]; exact k1x
        have fr2x : (∀ i k, (i ≠ 290 ∨ k ≠ 79 ∧ k ≠ 80) → (i < 350 ∨ 355 < i) → J2x i k = I i k) := fun i k q1x q2x => (s2x i k q1x (by omega)).trans (k2x i k q1x q2x)
        refine e_aload rfl rfl ?_
        refine e_getIv rfl hM.1 rfl ?_
        refine e_ipush rfl ?_
        refine e_ceq_b rfl (fun b46x => ?_) (fun b46x => ?_)
        · refine e_ipush rfl ?_
          refine e_istore rfl ?_
          refine e_iload rfl rfl ?_
          refine e_ifeq_t rfl rfl ?_
          refine e_iinc rfl rfl ?_
          refine e_goto rfl ?_
          refine Eg.pk [0, 1, 2, 3, 4] [4, 5, 0, 1, 2, 3] rfl (by decide) ?_
          rw [nI_1]
          exact iw J2x (BV_n hw hs bv so (fun q => q.1 b46x)) fr2x
        · refine e_aload rfl rfl ?_
          refine e_getR rfl hM.1 (show R 290 81 = some 355 from (hM.2 64 _ rfl).2) ?_
          refine e_ipush rfl ?_
          refine e_ialv (t := 0) (n := 4) rfl (show sh[355]? = some (20, 4) from (hM.2 64 _ rfl).1) rfl (by decide) (by decide) rfl ?_
          refine e_ipush rfl ?_
          refine e_ceq_b rfl (fun b56x => ?_) (fun b56x => ?_)
          · refine e_ipush rfl ?_
            refine e_goto rfl ?_
            refine e_istore rfl ?_
            refine e_iload rfl rfl ?_
            refine e_ifeq_f rfl (by decide) ?_
            refine e_aload rfl rfl ?_
            refine e_getR rfl hM.1 (show R 290 81 = some 355 from (hM.2 64 _ rfl).2) ?_
            refine e_ipush rfl ?_
            refine e_aload rfl rfl ?_
            refine e_getIv rfl hM.1 rfl ?_
            refine e_iasJ (t := 0) (n := 4) rfl (show sh[355]? = some (20, 4) from (hM.2 64 _ rfl).1) rfl (by decide) (by decide) (fun J53x g53x f53x => ?_)
            refine e_aload rfl rfl ?_
            refine e_getR rfl hM.1 (show R 290 81 = some 355 from (hM.2 64 _ rfl).2) ?_
            refine e_ipush rfl ?_
            refine e_aload rfl rfl ?_
            refine e_getIv rfl hM.1 ((f53x 290 80 (Or.inl (by omega))).trans rfl) ?_
            refine e_iasJ (t := 1) (n := 4) rfl (show sh[355]? = some (20, 4) from (hM.2 64 _ rfl).1) rfl (by decide) (by decide) (fun J54x g54x f54x => ?_)
            refine e_aload rfl rfl ?_
            refine e_getR rfl hM.1 (show R 290 81 = some 355 from (hM.2 64 _ rfl).2) ?_
            refine e_ipush rfl ?_
            refine e_iload rfl rfl ?_
            refine e_iasJ (t := 2) (n := 4) rfl (show sh[355]? = some (20, 4) from (hM.2 64 _ rfl).1) rfl (by decide) (by decide) (fun J55x g55x f55x => ?_)
            refine e_aload rfl rfl ?_
            refine e_getR rfl hM.1 (show R 290 81 = some 355 from (hM.2 64 _ rfl).2) ?_
            refine e_ipush rfl ?_
            refine e_iload rfl rfl ?_
            refine e_iasJ (t := 3) (n := 4) rfl (show sh[355]? = some (20, 4) from (hM.2 64 _ rfl).1) rfl (by decide) (by decide) (fun J56x g56x f56x => ?_)
            refine e_iinc rfl rfl ?_
            refine e_goto rfl ?_
            refine Eg.pk [0, 1, 2, 3, 4] [4, 5, 0, 1, 2, 3] rfl (by decide) ?_
            rw [nI_1]
            exact iw J56x (BV_y (n := 2 * fj + f) hw hs bv so ⟨b46x, Or.inl b56x⟩ ((f56x 355 0 (Or.inr (by decide))).trans ((f55x 355 0 (Or.inr (by decide))).trans ((f54x 355 0 (Or.inr (by decide))).trans g53x))) ((f56x 355 1 (Or.inr (by decide))).trans ((f55x 355 1 (Or.inr (by decide))).trans g54x)) (((f56x 355 2 (Or.inr (by decide))).trans g55x).trans (congrArg wy (show fj = (2 * fj + f) / 2 by omega))) (g56x.trans (congrArg nI (show f = (2 * fj + f) % 2 by omega)))) (fun i k q1x q2x => (f56x i k (by omega)).trans ((f55x i k (by omega)).trans ((f54x i k (by omega)).trans ((f53x i k (by omega)).trans (fr2x i k q1x q2x)))))
          · refine e_aload rfl rfl ?_
            refine e_getIv rfl hM.1 rfl ?_
            refine e_aload rfl rfl ?_
            refine e_getR rfl hM.1 (show R 290 81 = some 355 from (hM.2 64 _ rfl).2) ?_
            refine e_ipush rfl ?_
            refine e_ialv (t := 0) (n := 4) rfl (show sh[355]? = some (20, 4) from (hM.2 64 _ rfl).1) rfl (by decide) (by decide) rfl ?_
            refine e_clt_b rfl (fun b69x => ?_) (fun b69x => ?_)
            · refine e_ipush rfl ?_
              refine e_goto rfl ?_
              refine e_istore rfl ?_
              refine e_iload rfl rfl ?_
              refine e_ifeq_f rfl (by decide) ?_
              refine e_aload rfl rfl ?_
              refine e_getR rfl hM.1 (show R 290 81 = some 355 from (hM.2 64 _ rfl).2) ?_
              refine e_ipush rfl ?_
              refine e_aload rfl rfl ?_
              refine e_getIv rfl hM.1 rfl ?_
              refine e_iasJ (t := 0) (n := 4) rfl (show sh[355]? = some (20, 4) from (hM.2 64 _ rfl).1) rfl (by decide) (by decide) (fun J57x g57x f57x => ?_)
              refine e_aload rfl rfl ?_
              refine e_getR rfl hM.1 (show R 290 81 = some 355 from (hM.2 64 _ rfl).2) ?_
              refine e_ipush rfl ?_
              refine e_aload rfl rfl ?_
              refine e_getIv rfl hM.1 ((f57x 290 80 (Or.inl (by omega))).trans rfl) ?_
              refine e_iasJ (t := 1) (n := 4) rfl (show sh[355]? = some (20, 4) from (hM.2 64 _ rfl).1) rfl (by decide) (by decide) (fun J58x g58x f58x => ?_)
              refine e_aload rfl rfl ?_
              refine e_getR rfl hM.1 (show R 290 81 = some 355 from (hM.2 64 _ rfl).2) ?_
              refine e_ipush rfl ?_
              refine e_iload rfl rfl ?_
              refine e_iasJ (t := 2) (n := 4) rfl (show sh[355]? = some (20, 4) from (hM.2 64 _ rfl).1) rfl (by decide) (by decide) (fun J59x g59x f59x => ?_)
              refine e_aload rfl rfl ?_
              refine e_getR rfl hM.1 (show R 290 81 = some 355 from (hM.2 64 _ rfl).2) ?_
              refine e_ipush rfl ?_
              refine e_iload rfl rfl ?_
              refine e_iasJ (t := 3) (n := 4) rfl (show sh[355]? = some (20, 4) from (hM.2 64 _ rfl).1) rfl (by decide) (by decide) (fun J60x g60x f60x => ?_)
              refine e_iinc rfl rfl ?_
              refine e_goto rfl ?_
              refine Eg.pk [0, 1, 2, 3, 4] [4, 5, 0, 1, 2, 3] rfl (by decide) ?_
              rw [nI_1]
              exact iw J60x (BV_y (n := 2 * fj + f) hw hs bv so ⟨b46x, Or.inr (Or.inl b69x)⟩ ((f60x 355 0 (Or.inr (by decide))).trans ((f59x 355 0 (Or.inr (by decide))).trans ((f58x 355 0 (Or.inr (by decide))).trans g57x))) ((f60x 355 1 (Or.inr (by decide))).trans ((f59x 355 1 (Or.inr (by decide))).trans g58x)) (((f60x 355 2 (Or.inr (by decide))).trans g59x).trans (congrArg wy (show fj = (2 * fj + f) / 2 by omega))) (g60x.trans (congrArg nI (show f = (2 * fj + f) % 2 by omega)))) (fun i k q1x q2x => (f60x i k (by omega)).trans ((f59x i k (by omega)).trans ((f58x i k (by omega)).trans ((f57x i k (by omega)).trans (fr2x i k q1x q2x)))))
            · refine e_aload rfl rfl ?_
              refine e_getIv rfl hM.1 rfl ?_
              refine e_aload rfl rfl ?_
              refine e_getR rfl hM.1 (show R 290 81 = some 355 from (hM.2 64 _ rfl).2) ?_
              refine e_ipush rfl ?_
              refine e_ialv (t := 0) (n := 4) rfl (show sh[355]? = some (20, 4) from (hM.2 64 _ rfl).1) rfl (by decide) (by decide) rfl ?_
              refine e_cne_b rfl (fun b82x => ?_) (fun b82x => ?_)
              · refine e_ipush rfl ?_
                refine e_istore rfl ?_
                refine e_iload rfl rfl ?_
                refine e_ifeq_t rfl rfl ?_
                refine e_iinc rfl rfl ?_
                refine e_goto rfl ?_
                refine Eg.pk [0, 1, 2, 3, 4] [4, 5, 0, 1, 2, 3] rfl (by decide) ?_
                rw [nI_1]
                exact iw J2x (BV_n hw hs bv so (fun q => by rcases q.2 with r | r | r; exact b56x r; exact b69x r; exact b82x r.1)) fr2x
              · refine e_aload rfl rfl ?_
                refine e_getIv rfl hM.1 rfl ?_
                refine e_aload rfl rfl ?_
                refine e_getR rfl hM.1 (show R 290 81 = some 355 from (hM.2 64 _ rfl).2) ?_
                refine e_ipush rfl ?_
                refine e_ialv (t := 1) (n := 4) rfl (show sh[355]? = some (20, 4) from (hM.2 64 _ rfl).1) rfl (by decide) (by decide) rfl ?_
                refine e_cge_b rfl (fun b95x => ?_) (fun b95x => ?_)
                · refine e_ipush rfl ?_
                  refine e_istore rfl ?_
                  refine e_iload rfl rfl ?_
                  refine e_ifeq_t rfl rfl ?_
                  refine e_iinc rfl rfl ?_
                  refine e_goto rfl ?_
                  refine Eg.pk [0, 1, 2, 3, 4] [4, 5, 0, 1, 2, 3] rfl (by decide) ?_
                  rw [nI_1]
                  exact iw J2x (BV_n hw hs bv so (fun q => by rcases q.2 with r | r | r; exact b56x r; exact b69x r; exact Int32.not_lt.mpr b95x r.2)) fr2x
                · refine e_ipush rfl ?_
                  refine e_goto rfl ?_
                  refine e_istore rfl ?_
                  refine e_iload rfl rfl ?_
                  refine e_ifeq_f rfl (by decide) ?_
                  refine e_aload rfl rfl ?_
                  refine e_getR rfl hM.1 (show R 290 81 = some 355 from (hM.2 64 _ rfl).2) ?_
                  refine e_ipush rfl ?_
                  refine e_aload rfl rfl ?_
                  refine e_getIv rfl hM.1 rfl ?_
                  refine e_iasJ (t := 0) (n := 4) rfl (show sh[355]? = some (20, 4) from (hM.2 64 _ rfl).1) rfl (by decide) (by decide) (fun J61x g61x f61x => ?_)
                  refine e_aload rfl rfl ?_
                  refine e_getR rfl hM.1 (show R 290 81 = some 355 from (hM.2 64 _ rfl).2) ?_
                  refine e_ipush rfl ?_
                  refine e_aload rfl rfl ?_
                  refine e_getIv rfl hM.1 ((f61x 290 80 (Or.inl (by omega))).trans rfl) ?_
                  refine e_iasJ (t := 1) (n := 4) rfl (show sh[355]? = some (20, 4) from (hM.2 64 _ rfl).1) rfl (by decide) (by decide) (fun J62x g62x f62x => ?_)
                  refine e_aload rfl rfl ?_
                  refine e_getR rfl hM.1 (show R 290 81 = some 355 from (hM.2 64 _ rfl).2) ?_
                  refine e_ipush rfl ?_
                  refine e_iload rfl rfl ?_
                  refine e_iasJ (t := 2) (n := 4) rfl (show sh[355]? = some (20, 4) from (hM.2 64 _ rfl).1) rfl (by decide) (by decide) (fun J63x g63x f63x => ?_)
                  refine e_aload rfl rfl ?_
                  refine e_getR rfl hM.1 (show R 290 81 = some 355 from (hM.2 64 _ rfl).2) ?_
                  refine e_ipush rfl ?_
                  refine e_iload rfl rfl ?_
                  refine e_iasJ (t := 3) (n := 4) rfl (show sh[355]? = some (20, 4) from (hM.2 64 _ rfl).1) rfl (by decide) (by decide) (fun J64x g64x f64x => ?_)
                  refine e_iinc rfl rfl ?_
                  refine e_goto rfl ?_
                  refine Eg.pk [0, 1, 2, 3, 4] [4, 5, 0, 1, 2, 3] rfl (by decide) ?_
                  rw [nI_1]
                  exact iw J64x (BV_y (n := 2 * fj + f) hw hs bv so ⟨b46x, Or.inr (Or.inr ⟨b82x, Int32.not_le.mp b95x⟩)⟩ ((f64x 355 0 (Or.inr (by decide))).trans ((f63x 355 0 (Or.inr (by decide))).trans ((f62x 355 0 (Or.inr (by decide))).trans g61x))) ((f64x 355 1 (Or.inr (by decide))).trans ((f63x 355 1 (Or.inr (by decide))).trans g62x)) (((f64x 355 2 (Or.inr (by decide))).trans g63x).trans (congrArg wy (show fj = (2 * fj + f) / 2 by omega))) (g64x.trans (congrArg nI (show f = (2 * fj + f) % 2 by omega)))) (fun i k q1x q2x => (f64x i k (by omega)).trans ((f63x i k (by omega)).trans ((f62x i k (by omega)).trans ((f61x i k (by omega)).trans (fr2x i k q1x q2x)))))
    · refine e_iload rfl rfl ?_
      refine e_ipush rfl ?_
      refine e_cge_t rfl (Int32.le_refl _) ?_
      refine e_iinc rfl rfl ?_
      refine e_goto rfl ?_
      refine Eg.pk [0, 1, 2, 3] [3, 0, 1, 2, 4] rfl (by decide) ?_
      rw [wy_1]
      exact ih J (show BV v sp to (2 * (fj + 1)) (J 355) from k1x) k2x
  · refine e_iload rfl rfl ?_
    refine e_ipush rfl ?_
    refine e_cgt_t rfl (by decide) ?_
    exact Eg.ret rfl (by decide) rfl ⟨rfl, J, rfl, k1x, k2x⟩
theorem kw_4 {kw : Int32} (h : ¬ (kw < 0 ∨ 3 < kw)) : kw = 0 ∨ kw = 1 ∨ kw = 2 ∨ kw = 3 := by
  obtain ⟨t, lt, rfl⟩ := nI_of (x := kw) (fun q => h (Or.inl q))
  have : ¬ 3 < t := fun q => h (Or.inr ((nI_lti (a := 3) (by decide) lt).mpr q))
  rcases (show t = 0 ∨ t = 1 ∨ t = 2 ∨ t = 3 by omega) with e | e | e | e <;> subst e <;> decide
theorem md_voyage (hM : MW sh R) (hv : mV I v) (hw : Wf v) {x y kw : Int32} : Ec X 9 279 [.ref 290, .int x, .int y, .int kw] (sh, I, L, R) (fun r h' => ∃ z, r = some (.int z) ∧ QVoy v x y kw z ∧ ∃ J : Nat → Nat → Int32, h' = (sh, J, L, R) ∧ (∀ i k, (i ≠ 290 ∨ k ≠ 79 ∧ k ≠ 80) → (i < 350 ∨ 355 < i) → J i k = I i k)) := by
  have hb := hw.1.2
  refine Ec.of (Nat.le_of_ble_eq_true rfl) ?_
  refine e_aload rfl rfl ?_
  refine e_iload rfl rfl ?_
  refine Eg.p2 rfl (by decide) (by decide) rfl (Nat.le_of_ble_eq_true rfl) (xrcv_of rfl hM.1 rfl) ((ms_isShip hM hv hw).mono (by decide)) ?_
  refine e_ifeq_b rfl (fun b5x => ?_) (fun b5x => ?_)
  · replace b5x := yn_0.mp b5x
    refine e_ipush rfl ?_
    exact Eg.ret rfl (by decide) rfl ⟨_, rfl, Or.inr ⟨fun q => b5x q.1, rfl⟩, I, rfl, fun _ _ _ _ => rfl⟩
  · replace b5x := yn_n0.mp b5x
    obtain ⟨sp, hs, rfl⟩ := nI_get b5x (by omega)
    have hvs := vS_ok hw hs
    refine e_aload rfl rfl ?_
    refine e_getR rfl hM.1 (show R 290 18 = some 308 from (hM.2 17 _ rfl).2) ?_
    refine e_iload rfl rfl ?_
    refine e_ialv (t := sp) (n := 4) rfl (show sh[308]? = some (20, 4) from (hM.2 17 _ rfl).1) rfl (by omega) (by decide) (hv 18 sp (by decide)) ?_
    refine e_ipush rfl ?_
    refine e_cne_b rfl (fun b15x => ?_) (fun b15x => ?_)
    · refine e_ipush rfl ?_
      exact Eg.ret rfl (by decide) rfl ⟨_, rfl, Or.inr ⟨fun q => b15x (by have := q.2.2.1; rwa [nI_clamp (by omega)] at this), rfl⟩, I, rfl, fun _ _ _ _ => rfl⟩
    · refine e_aload rfl rfl ?_
      refine e_iload rfl rfl ?_
      refine Eg.p2 rfl (by decide) (by decide) rfl (Nat.le_of_ble_eq_true rfl) (xrcv_of rfl hM.1 rfl) ((ms_isCell hM hv hw).mono (by decide)) ?_
      refine e_ifeq_b rfl (fun b23x => ?_) (fun b23x => ?_)
      · replace b23x := yn_0.mp b23x
        refine e_ipush rfl ?_
        exact Eg.ret rfl (by decide) rfl ⟨_, rfl, Or.inr ⟨fun q => b23x q.2.1, rfl⟩, I, rfl, fun _ _ _ _ => rfl⟩
      · replace b23x := yn_n0.mp b23x
        obtain ⟨to, hto, rfl⟩ := nI_get b23x (by omega)
        refine e_iload rfl rfl ?_
        refine e_i2l rfl ?_
        refine e_lpush rfl ?_
        refine e_lpush rfl ?_
        refine Eg.p3 rfl (by decide) (by decide) rfl (Nat.le_of_ble_eq_true rfl) (xrcv_ofs (Or.inl rfl)) ((ms_inv (x := kw) (y := 0) (z := 3) rfl rfl rfl).mono (by decide)) ?_
        refine e_ifne_b rfl (fun b35x => ?_) (fun b35x => ?_)
        · replace b35x := yn_n0.mp b35x
          refine e_aload rfl rfl ?_
          refine e_getR rfl hM.1 (show R 290 13 = some 303 from (hM.2 12 _ rfl).2) ?_
          refine e_iload rfl rfl ?_
          refine e_ialv (t := sp) (n := 4) rfl (show sh[303]? = some (20, 4) from (hM.2 12 _ rfl).1) rfl (by omega) (by decide) ((hv 13 sp (by decide)).trans hvs.1) ?_
          refine e_iload rfl rfl ?_
          refine e_cne_b rfl (fun b48x => ?_) (fun b48x => ?_)
          · refine e_aload rfl rfl ?_
            refine e_iload rfl rfl ?_
            refine e_iload rfl rfl ?_
            refine Eg.c3 rfl (by decide) (by decide) rfl (Nat.le_of_ble_eq_true rfl) (xrcv_of rfl hM.1 rfl) ((ms_findsVoyage hM hv hw hs hto).mono (by decide)) (fun r1x h1x hq => ?_)
            obtain ⟨rfl, J, rfl, b1x, b2x⟩ := hq
            refine e_aload rfl rfl ?_
            refine e_getR rfl hM.1 (show R 290 81 = some 355 from (hM.2 64 _ rfl).2) ?_
            refine e_ipush rfl ?_
            refine e_ialv (t := 0) (n := 4) rfl (show sh[355]? = some (20, 4) from (hM.2 64 _ rfl).1) rfl (by decide) (by decide) rfl ?_
            refine e_ipush rfl ?_
            refine e_cne_b rfl (fun b90x => ?_) (fun b90x => ?_)
            · obtain ⟨t, k, q, q1x, q0x, q2x, q3x, q4x⟩ : ∃ t k q, LM (vS v sp to 6) t k q ∧ J 355 0 = nI (cn v 7 + t) ∧ J 355 1 = nI k ∧ J 355 2 = wy (q / 2) ∧ J 355 3 = nI (q % 2) := by rcases b1x with r | r; exact absurd r.1 b90x; exact r
              have gg : gVoy v (nI sp) (nI to) kw := ⟨b5x, b23x, by rw [nI_clamp (by omega)]; exact b15x, b35x⟩
              have fin : ∀ r : Int32, r = vA v kw t k q → QVoy v (nI sp) (nI to) kw r := fun r e => Or.inl ⟨gg, by rw [nI_clamp (by omega), nI_clamp (by omega)]; exact Or.inr ⟨fun z => b48x (congrArg nI z), Or.inr ⟨t, k, q, q1x, e⟩⟩⟩
              rcases kw_4 b35x with rfl | rfl | rfl | rfl
              · refine e_aload rfl rfl ?_
                refine e_getR rfl hM.1 (show R 290 81 = some 355 from (hM.2 64 _ rfl).2) ?_
                refine e_iload rfl rfl ?_
                refine e_ialv (t := 0) (n := 4) rfl (show sh[355]? = some (20, 4) from (hM.2 64 _ rfl).1) rfl (by decide) (by decide) q0x ?_
                exact Eg.ret rfl (by decide) rfl ⟨_, rfl, fin _ rfl, J, rfl, b2x⟩
              · refine e_aload rfl rfl ?_
                refine e_getR rfl hM.1 (show R 290 81 = some 355 from (hM.2 64 _ rfl).2) ?_
                refine e_iload rfl rfl ?_
                refine e_ialv (t := 1) (n := 4) rfl (show sh[355]? = some (20, 4) from (hM.2 64 _ rfl).1) rfl (by decide) (by decide) q2x ?_
                exact Eg.ret rfl (by decide) rfl ⟨_, rfl, fin _ rfl, J, rfl, b2x⟩
              · refine e_aload rfl rfl ?_
                refine e_getR rfl hM.1 (show R 290 81 = some 355 from (hM.2 64 _ rfl).2) ?_
                refine e_iload rfl rfl ?_
                refine e_ialv (t := 2) (n := 4) rfl (show sh[355]? = some (20, 4) from (hM.2 64 _ rfl).1) rfl (by decide) (by decide) q3x ?_
                exact Eg.ret rfl (by decide) rfl ⟨_, rfl, fin _ rfl, J, rfl, b2x⟩
              · refine e_aload rfl rfl ?_
                refine e_getR rfl hM.1 (show R 290 81 = some 355 from (hM.2 64 _ rfl).2) ?_
                refine e_iload rfl rfl ?_
                refine e_ialv (t := 3) (n := 4) rfl (show sh[355]? = some (20, 4) from (hM.2 64 _ rfl).1) rfl (by decide) (by decide) q4x ?_
                exact Eg.ret rfl (by decide) rfl ⟨_, rfl, fin _ rfl, J, rfl, b2x⟩
            · refine e_ipush rfl ?_
              refine e_goto rfl ?_
              have gg : gVoy v (nI sp) (nI to) kw := ⟨b5x, b23x, by rw [nI_clamp (by omega)]; exact b15x, b35x⟩
              have nn : ∀ t k q, ¬ vS v sp to 6 t k q := by rcases b1x with q | ⟨t, k, q, q1x, q0x, _⟩; exact q.2; have := q1x.1.2.2.1; rw [q0x] at b90x; exact absurd b90x (nI_m1' (by omega))
              exact Eg.ret rfl (by decide) rfl ⟨_, rfl, Or.inl ⟨gg, by rw [nI_clamp (by omega), nI_clamp (by omega)]; exact Or.inr ⟨fun q => b48x (congrArg nI q), Or.inl ⟨nn, rfl⟩⟩⟩, J, rfl, b2x⟩
          · refine e_iload rfl rfl ?_
            refine e_ifne_b rfl (fun b52x => ?_) (fun b52x => ?_)
            · refine e_iload rfl rfl ?_
              refine e_ipush rfl ?_
              refine e_cne_b rfl (fun b67x => ?_) (fun b67x => ?_)
              · refine e_ipush rfl ?_
                have gg : gVoy v (nI sp) (nI to) kw := ⟨b5x, b23x, by rw [nI_clamp (by omega)]; exact b15x, b35x⟩
                exact Eg.ret rfl (by decide) rfl ⟨_, rfl, Or.inl ⟨gg, by rw [nI_clamp (by omega), nI_clamp (by omega)]; exact Or.inl ⟨(nI_ij (by omega) (by omega)).mp b48x, ((if_neg b52x).trans (if_neg b67x)).symm⟩⟩, I, rfl, fun _ _ _ _ => rfl⟩
              · refine e_ipush rfl ?_
                refine e_goto rfl ?_
                have gg : gVoy v (nI sp) (nI to) kw := ⟨b5x, b23x, by rw [nI_clamp (by omega)]; exact b15x, b35x⟩
                exact Eg.ret rfl (by decide) rfl ⟨_, rfl, Or.inl ⟨gg, by rw [nI_clamp (by omega), nI_clamp (by omega)]; exact Or.inl ⟨(nI_ij (by omega) (by omega)).mp b48x, ((if_neg b52x).trans (if_pos b67x)).symm⟩⟩, I, rfl, fun _ _ _ _ => rfl⟩
            · refine e_aload rfl rfl ?_
              refine e_getR rfl hM.1 (show R 290 1 = some 291 from (hM.2 0 _ rfl).2) ?_
              refine e_ipush rfl ?_
              refine e_ialv (t := 7) (n := 14) rfl (show sh[291]? = some (20, 14) from (hM.2 0 _ rfl).1) rfl (by decide) (by decide) (hv.n hw (j := 7) (by decide)) ?_
              refine e_goto rfl ?_
              have gg : gVoy v (nI sp) (nI to) kw := ⟨b5x, b23x, by rw [nI_clamp (by omega)]; exact b15x, b35x⟩
              exact Eg.ret rfl (by decide) rfl ⟨_, rfl, Or.inl ⟨gg, by rw [nI_clamp (by omega), nI_clamp (by omega)]; exact Or.inl ⟨(nI_ij (by omega) (by omega)).mp b48x, (if_pos b52x).symm⟩⟩, I, rfl, fun _ _ _ _ => rfl⟩
        · replace b35x := yn_0.mp b35x
          refine e_ipush rfl ?_
          exact Eg.ret rfl (by decide) rfl ⟨_, rfl, Or.inr ⟨fun q => b35x q.2.2.2, rfl⟩, I, rfl, fun _ _ _ _ => rfl⟩
end VM2x
